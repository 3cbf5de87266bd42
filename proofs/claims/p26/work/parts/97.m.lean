section S_97
/-! windows: the class's finds, the reference's fits -/
theorem tkW_none {W pl n : Nat} {os ps : List (Nat → Int32)} (h : tkW W os ps pl n = none) : ∀ m, n ≤ m → tkW W os ps pl m = none := by
  intro m hm
  induction m with
  | zero => have : n = 0 := by omega
            subst this; exact h
  | succ m ih =>
    by_cases e : n = m + 1
    · subst e; exact h
    · show (tkW W os ps pl m).bind _ = none
      rw [ih (by omega)]; rfl
theorem getD_map {W : Nat} {os : List (Nat → Int32)} {i : Nat} (h : i < os.length) : (os.map (keepF W)).getD i (fun _ => 0) = keepF W (os.getD i (fun _ => 0)) := by
  rw [List.getD_eq_getElem?_getD, List.getD_eq_getElem?_getD, List.getElem?_map, List.getElem?_eq_getElem h]
  rfl
section WI3
variable {d : Nat} {σ : jS} {s : AS} {cr cp : Nat} {qr qp : Nat → Nat}
theorem c97 (hS : SH σ) (hs : WFs s) (hC : CX s cr cp qr qp σ) {p r pl : Nat} (hp : p < s.ps.length) (hr : r < s.rs.length) (hpl : pl ≤ 24) : ∃ σ', jx (d + 4) 97 0 [some (.ref 38), some (.ref (qp p)), some (.int (nI pl)), some (.ref (qr r)), none, none, none, none] [] σ = some (some (.int (if (winF s.W (s.rs.getD r ar0).o1 (s.rs.getD r ar0).o2.length (s.ps.getD p []) pl).isSome then 1 else 0)), σ') ∧ FR [39, 40] σ σ' ∧ (∀ x, winF s.W (s.rs.getD r ar0).o1 (s.rs.getD r ar0).o2.length (s.ps.getD p []) pl = some x → RB (-1) σ' 39 40 x ∧ IB x.1 ∧ IC x.2) := by
  obtain ⟨a, ea⟩ : ∃ a, s.rs.getD r ar0 = a := ⟨_, rfl⟩
  obtain ⟨A, eA⟩ : ∃ A, s.ps.getD p [] = A := ⟨_, rfl⟩
  have cr' := hC.rs r hr
  have fr := hs.fr _ (mem_rs hr)
  have ra := hC.ps p hp
  have fA := hs.fp _ (mem_ps hp)
  rw [ea] at cr' fr
  rw [eA] at ra fA
  rw [ea, eA]
  obtain ⟨⟨tp, hU, hbig, g1, g2, e4, e5, e6, e0, htp⟩, -⟩ := cr'
  obtain ⟨u1, u2, u3, -⟩ := hU
  have br := hC.dj.r r (by have := hC.lr.1; omega)
  have bp := hC.dj.p p (by have := hC.lp.1; omega)
  have r1 : (jR σ 320 (qr r)).getD 0 = qr r + 1 := by rw [u2]; rfl
  have r2 : (jR σ 321 (qr r)).getD 0 = qr r + 3 := by rw [u3]; rfl
  have l1 : jI σ 257 (qr r + 1) = nI a.o1.length := by rw [g1.1.2.2.2.2.2.1, List.length_map]
  have l2 : jI σ 257 (qr r + 3) = nI a.o2.length := by rw [g2.1.2.2.2.2.2.1, List.length_map]
  have lA : jI σ 257 (qp p) = nI A.length := ra.1.2.2.2.2.2.1
  have n4 := fr.l4
  have m4 := fr.m4
  have z24 := fA.1
  have st : jx (d + 4) 97 0 [some (.ref 38), some (.ref (qp p)), some (.int (nI pl)), some (.ref (qr r)), none, none, none, none] [] σ = if 24 < nI A.length - nI a.o1.length + nI a.o2.length then some (some (.int 0), σ) else if nI pl + nI a.o1.length ≤ nI A.length then jx (d + 4) 97 54 [some (.ref 38), some (.ref (qp p)), some (.int (nI pl)), some (.ref (qr r)), some (.int (nI a.o1.length)), some (.int 1), none, none] [] σ else some (some (.int 0), σ) := by
    rw [k97_0 u1 (by rw [u2]; exact fun z => nomatch z) (by rw [r1]; exact g1.1.1) ra.1.1 (by rw [u3]; exact fun z => nomatch z) (by rw [r2]; exact g2.1.1), r1, r2, l1, l2, lA]
    by_cases q : 24 < nI A.length - nI a.o1.length + nI a.o2.length
    · rw [if_pos q, if_pos q, k97_33, if_pos rfl, k97_52]
    · rw [if_neg q, if_neg q, k97_29, if_neg (by decide), k97_41 ra.1.1, lA]
      by_cases q2 : nI pl + nI a.o1.length ≤ nI A.length
      · rw [if_pos q2, if_pos q2]
      · rw [if_neg q2, if_neg q2, k97_52]
  by_cases c1 : pl + a.o1.length ≤ A.length
  · have q2 : nI pl + nI a.o1.length ≤ nI A.length := by rw [nadd]; exact nI_le c1 (by omega)
    by_cases c2 : A.length - a.o1.length + a.o2.length ≤ 24
    · have q1 : ¬ 24 < nI A.length - nI a.o1.length + nI a.o2.length := by
        rw [nsub (by omega), nadd, show (24 : Int32) = nI 24 from rfl, n31 (by decide) (by omega)]; omega
      have wf : winF s.W a.o1 a.o2.length A pl = tkW s.W a.o1 A pl a.o1.length := if_pos ⟨c1, c2⟩
      rw [wf]
      have hB := BD38 hS
      obtain ⟨σ1, e1, F1, rb1⟩ := c98 (d := d + 3) hB (by decide)
      have L : ∀ f n υ x, n + f = a.o1.length → FR [39, 40] σ υ → tkW s.W a.o1 A pl n = some x → RB (-1) υ 39 40 x → IB x.1 → IC x.2 → ∃ σ', jx (d + 4) 97 64 [some (.ref 38), some (.ref (qp p)), some (.int (nI pl)), some (.ref (qr r)), some (.int (nI a.o1.length)), some (.int 1), some (.int 1), some (.int (nI n))] [] υ = some (some (.int (if (tkW s.W a.o1 A pl a.o1.length).isSome then 1 else 0)), σ') ∧ FR [39, 40] σ σ' ∧ (∀ x', tkW s.W a.o1 A pl a.o1.length = some x' → RB (-1) σ' 39 40 x' ∧ IB x'.1 ∧ IC x'.2) := by
        intro f
        induction f with
        | zero =>
          intro n υ x hn F ht hr ib ic
          have e : n = a.o1.length := by omega
          subst e
          refine ⟨υ, ?_, F, fun x' hx' => by rw [ht, Option.some_inj] at hx'; subst hx'; exact ⟨hr, ib, ic⟩⟩
          rw [k97_64, if_pos (nI_le (Nat.le_refl _) (by omega)), k97_99 (by decide), ht]
          rfl
        | succ f ih =>
          intro n υ x hn F ht hr ib ic
          have hlt : n < a.o1.length := by omega
          have u2' : jR υ 320 (qr r) = some (qr r + 1) := by rw [F.1.2.2.1]; exact u2
          have r1' : (jR υ 320 (qr r)).getD 0 = qr r + 1 := by rw [u2']; rfl
          have g1' := g1.frame F (by simp; omega) (by simp; omega)
          have ra' := ra.frame F (by simp; omega) (by simp; omega)
          obtain ⟨υ1, e2, F2, r2⟩ := c99 (d := d) (B := 38) (W := s.W) (k := n) (i := pl + n) (nr := a.nr) (nm := a.nm) (o := a.o1.getD n (fun _ => 0)) (p := A.getD (pl + n) (fun _ => 0)) (F.sh hS) (F.st (by decide) (by decide) hC.st) hs.w (hB.frame F) (by decide) hr ib ic g1' (by rw [List.length_map]; exact hlt) (getD_map hlt) (fr.f1 _ (mem_getD hlt)) (fr.z4 _ (mem_getD hlt)) fr.nr4 fr.nm3 ra' (by omega) rfl (fA.2 _ (mem_getD (by omega))) (fun z hz => by simp at hz; omega)
          have tj : tkW s.W a.o1 A pl (n + 1) = tkO s.W x (a.o1.getD n (fun _ => 0)) (A.getD (pl + n) (fun _ => 0)) := by
            show (tkW s.W a.o1 A pl n).bind _ = _
            rw [ht]; rfl
          rw [← tj] at e2 r2
          have stp : jx (d + 4) 97 64 [some (.ref 38), some (.ref (qp p)), some (.int (nI pl)), some (.ref (qr r)), some (.int (nI a.o1.length)), some (.int 1), some (.int 1), some (.int (nI n))] [] υ = jx (d + 4) 97 64 [some (.ref 38), some (.ref (qp p)), some (.int (nI pl)), some (.ref (qr r)), some (.int (nI a.o1.length)), some (.int 1), some (.int (if (tkW s.W a.o1 A pl (n + 1)).isSome then 1 else 0)), some (.int (nI (n + 1)))] [] υ1 := by
            rw [k97_64, if_neg (nI_ge (by omega) (by omega)), k97_71, if_neg (by decide), k97_76 (by rw [F.1.1]; exact u1) (by rw [u2']; exact fun z => nomatch z) (hB.frame F).1, r1', nadd, e2]
            simp only [Option.bind_some, Option.toList_some, List.cons_append, List.nil_append]
            rw [k97_91, ← nI_succ]
          cases hT : tkW s.W a.o1 A pl (n + 1) with
          | none =>
            rw [hT] at stp
            have tn := tkW_none hT a.o1.length (by omega)
            refine ⟨υ1, ?_, F.trans F2, fun x' hx' => by rw [tn] at hx'; cases hx'⟩
            rw [stp, tn, k97_64]
            by_cases q : nI a.o1.length ≤ nI (n + 1)
            · rw [if_pos q]; exact k97_99 (by decide)
            · rw [if_neg q, k97_71, if_pos (by decide)]; exact k97_99 (by decide)
          | some x1 =>
            rw [hT] at stp
            obtain ⟨g3, g4, g5⟩ := r2 x1 hT
            obtain ⟨σ', e3, F3, r3⟩ := ih (n + 1) υ1 x1 (by omega) (F.trans F2) hT g3 g4 g5
            exact ⟨σ', stp.trans e3, F3, r3⟩
      obtain ⟨σ', e3, F3, r3⟩ := L a.o1.length 0 σ1 _ (by omega) F1 rfl rb1 ⟨(fun i v _ h => nomatch h), (fun i j v _ _ h => nomatch h)⟩ (fun i v _ h => nomatch h)
      refine ⟨σ', ?_, F3, r3⟩
      rw [st, if_neg q1, if_pos q2, k97_54 hB.1, e1]
      simp only [Option.bind_some, Option.toList_none, List.nil_append]
      rw [k97_58]
      exact e3
    · have q1 : 24 < nI A.length - nI a.o1.length + nI a.o2.length := by
        rw [nsub (by omega), nadd, show (24 : Int32) = nI 24 from rfl, n31 (by decide) (by omega)]; omega
      have wf : winF s.W a.o1 a.o2.length A pl = none := if_neg (fun z => c2 z.2)
      refine ⟨σ, ?_, FR.refl _ σ, fun x hx => by rw [wf] at hx; cases hx⟩
      rw [st, if_pos q1, wf]
      rfl
  · have q2 : ¬ nI pl + nI a.o1.length ≤ nI A.length := by rw [nadd, n31le (by omega) (by omega)]; exact c1
    have wf : winF s.W a.o1 a.o2.length A pl = none := if_neg (fun z => c1 z.1)
    refine ⟨σ, ?_, FR.refl _ σ, fun x hx => by rw [wf] at hx; cases hx⟩
    rw [st, wf]
    by_cases q : 24 < nI A.length - nI a.o1.length + nI a.o2.length
    · rw [if_pos q]; rfl
    · rw [if_neg q, if_neg q2]; rfl
/-- the reference's fits on the registers -/
theorem c183r {R w v : Nat} {b : BN} (tR : jT σ R = 20) (nR : jN σ R = 4) (hb : ∀ k, k < 4 → jA σ R k = encB (-4) b k) (iv : IB b) (hw : w < 4) (hv : v < 4) : ∃ σ', jx d 183 0 [some (.ref R), some (.int (nI w)), some (.int (nI v)), some (.int 1), none] [] σ = some (some (.int (if (tkR b w v).isSome then 1 else 0)), σ') ∧ FR [R] σ σ' ∧ (∀ b', tkR b w v = some b' → ∀ k, k < 4 → jA σ' R k = encB (-4) b' k) := by
  have b8 : ∀ k, k < 4 → ∀ u, b k = some u → u < 8 := fun k hk u hu => by have := iv.1 k u hk hu; omega
  have gw : jin (jN σ R) (nI w) := by rw [nR]; exact jin_n hw (by decide)
  have cw : (nI w).toNatClampNeg = w := nI_clamp (by omega)
  cases hw' : b w with
  | none =>
    have e4 : jA σ R w = -4 := by rw [hb w hw]; exact (enc_none (b8 w hw)).mpr hw'
    have tr : tkR b w v = if hasV b v = true then none else some (upB b w v) := by unfold tkR; rw [hw']
    by_cases hx : ∃ k, k < 4 ∧ b k = some v
    · have L : ∀ f n, n + f = 4 → (∃ k, n ≤ k ∧ k < 4 ∧ b k = some v) → jx d 183 11 [some (.ref R), some (.int (nI w)), some (.int (nI v)), some (.int 1), some (.int (nI n))] [] σ = some (some (.int 0), σ) := by
        intro f
        induction f with
        | zero => intro n hn ⟨k, k1, k2, _⟩; omega
        | succ f ih =>
          intro n hn hk
          have g4 : ¬ Int32.ofNat 4 ≤ nI n := nI_ge (by omega) (by omega)
          rw [k183_11 (by rw [tR]; decide), nR, if_neg g4, k183_18, if_neg (by decide), k183_22 (Or.inl tR) (by rw [nR]; exact jin_n (by omega) (by decide)), nI_clamp (by omega), hb n (by omega)]
          by_cases q : b n = some v
          · rw [if_neg (fun z => z ((enc_eq (Or.inr rfl) (by omega) (b8 n (by omega))).mpr q)), k183_30]
          · rw [if_pos (fun z => q ((enc_eq (Or.inr rfl) (by omega) (b8 n (by omega))).mp z)), k183_32, ← nI_succ]
            obtain ⟨k, k1, k2, k3⟩ := hk
            have : k ≠ n := fun z => q (z ▸ k3)
            exact ih (n + 1) (by omega) ⟨k, by omega, k2, k3⟩
      obtain ⟨k, k1, k2⟩ := hx
      have tn : tkR b w v = none := by rw [tr, if_pos (hasV_iff.mpr ⟨k, k1, k2⟩)]
      refine ⟨σ, ?_, FR.refl _ σ, fun b' hb' => by rw [tn] at hb'; cases hb'⟩
      rw [k183_0 (Or.inl tR) gw, cw, e4, if_neg (fun z => z rfl), k183_8, tn]
      exact L 4 0 rfl ⟨k, Nat.zero_le _, k1, k2⟩
    · have L : ∀ f n, n + f = 4 → jx d 183 11 [some (.ref R), some (.int (nI w)), some (.int (nI v)), some (.int 1), some (.int (nI n))] [] σ = some (some (.int 1), jsA σ R w (nI v)) := by
        intro f
        induction f with
        | zero =>
          intro n hn
          have e : n = 4 := by omega
          subst e
          rw [k183_11 (by rw [tR]; decide), nR, if_pos (by decide), k183_38 tR gw, cw]
        | succ f ih =>
          intro n hn
          have g4 : ¬ Int32.ofNat 4 ≤ nI n := nI_ge (by omega) (by omega)
          have q : ¬ b n = some v := fun z => hx ⟨n, by omega, z⟩
          rw [k183_11 (by rw [tR]; decide), nR, if_neg g4, k183_18, if_neg (by decide), k183_22 (Or.inl tR) (by rw [nR]; exact jin_n (by omega) (by decide)), nI_clamp (by omega), hb n (by omega), if_pos (fun z => q ((enc_eq (Or.inr rfl) (by omega) (b8 n (by omega))).mp z)), k183_32, ← nI_succ]
          exact ih (n + 1) (by omega)
      have tn : tkR b w v = some (upB b w v) := by rw [tr, if_neg (fun z => hx (hasV_iff.mp z))]
      refine ⟨jsA σ R w (nI v), ?_, (FR.refl _ σ).A (by simp), fun b' hb' k hk => ?_⟩
      · rw [k183_0 (Or.inl tR) gw, cw, e4, if_neg (fun z => z rfl), k183_8, tn]
        exact L 4 0 rfl
      · rw [tn, Option.some_inj] at hb'
        rw [← hb', enc_up, zA_A]
        by_cases e : k = w
        · rw [if_pos ⟨rfl, e⟩, if_pos e]
        · rw [if_neg (fun z => e z.2), if_neg e]; exact hb k hk
  | some u =>
    have n4 : ¬ jA σ R w = -4 := by rw [hb w hw, enc_none (b8 w hw), hw']; exact fun z => nomatch z
    have ew : jA σ R w = nI u := by rw [hb w hw]; unfold encB; rw [hw']
    have u4 := iv.1 w u hw hw'
    have tr : tkR b w v = if u = v then some b else none := by unfold tkR; rw [hw']
    refine ⟨σ, ?_, FR.refl _ σ, fun b' hb' => ?_⟩
    · rw [k183_0 (Or.inl tR) gw, cw, if_pos n4, k183_44 (Or.inl tR) gw, cw, ew, tr]
      by_cases e : u = v
      · rw [if_neg (fun z => z (by rw [e])), k183_51, if_pos e]; rfl
      · rw [if_pos (by rw [n31eq (by omega) (by omega)]; exact e), k183_55, if_neg e]; rfl
    · rw [tr] at hb'
      split at hb'
      · cases hb'; exact hb
      · cases hb'
theorem c183m {R w v : Nat} {c : BN} (tR : jT σ R = 20) (nR : jN σ R = 3) (hc : ∀ k, k < 3 → jA σ R k = encB (-4) c k) (ic : IC c) (hw : w < 3) (hv : v < 8) : ∃ σ', jx d 183 0 [some (.ref R), some (.int (nI w)), some (.int (nI v)), some (.int 0), none] [] σ = some (some (.int (if (tkM c w v).isSome then 1 else 0)), σ') ∧ FR [R] σ σ' ∧ (∀ c', tkM c w v = some c' → ∀ k, k < 3 → jA σ' R k = encB (-4) c' k) := by
  have c8 : ∀ u, c w = some u → u < 8 := fun u hu => ic w u hw hu
  have gw : jin (jN σ R) (nI w) := by rw [nR]; exact jin_n hw (by decide)
  have cw : (nI w).toNatClampNeg = w := nI_clamp (by omega)
  cases hw' : c w with
  | none =>
    have e4 : jA σ R w = -4 := by rw [hc w hw]; exact (enc_none c8).mpr hw'
    have tr : tkM c w v = some (upB c w v) := by unfold tkM; rw [hw']
    refine ⟨jsA σ R w (nI v), ?_, (FR.refl _ σ).A (by simp), fun c' hc' k hk => ?_⟩
    · rw [k183_0 (Or.inl tR) gw, cw, e4, if_neg (fun z => z rfl), k183_8, k183_11 (by rw [tR]; decide), nR, if_neg (by decide), k183_18, if_pos rfl, k183_38 tR gw, cw, tr]
      rfl
    · rw [tr, Option.some_inj] at hc'
      rw [← hc', enc_up, zA_A]
      by_cases e : k = w
      · rw [if_pos ⟨rfl, e⟩, if_pos e]
      · rw [if_neg (fun z => e z.2), if_neg e]; exact hc k hk
  | some u =>
    have n4 : ¬ jA σ R w = -4 := by rw [hc w hw, enc_none c8, hw']; exact fun z => nomatch z
    have ew : jA σ R w = nI u := by rw [hc w hw]; unfold encB; rw [hw']
    have u8 := c8 u hw'
    have tr : tkM c w v = if u = v then some c else none := by unfold tkM; rw [hw']
    refine ⟨σ, ?_, FR.refl _ σ, fun c' hc' => ?_⟩
    · rw [k183_0 (Or.inl tR) gw, cw, if_pos n4, k183_44 (Or.inl tR) gw, cw, ew, tr]
      by_cases e : u = v
      · rw [if_neg (fun z => z (by rw [e])), k183_51, if_pos e]; rfl
      · rw [if_pos (by rw [n31eq (by omega) (by omega)]; exact e), k183_55, if_neg e]; rfl
    · rw [tr] at hc'
      split at hc'
      · cases hc'; exact hc
      · cases hc'
end WI3
end S_97
section S_98
/-! windows: the reference -/
abbrev w12 (p pl r n : Nat) (is : Int32) (i : Nat) (l7 l8 l9 l10 l11 : Option Value) : List (Option Value) := [some (.ref 47), some (.int (nI p)), some (.int (nI pl)), some (.int (nI r)), some (.int (nI n)), some (.int is), some (.int (nI i)), l7, l8, l9, l10, l11]
theorem mod3n : ∀ k, k < 4 → nI k - nI k / 3 * 3 = nI (k % 3) := by decide
section WI4
variable {d : Nat} {σ : jS} {s : AS}
theorem c182 (hS : SH σ) (hs : WFs s) (hM : CM s σ) {p r pl : Nat} (hp : p < s.ps.length) (hr : r < s.rs.length) (hpl : pl ≤ 24) : ∃ σ', jx (d + 2) 182 0 [some (.ref 47), some (.int (nI p)), some (.int (nI pl)), some (.int (nI r)), none, none, none, none, none, none, none, none] [] σ = some (some (.int (if (winF s.W (s.rs.getD r ar0).o1 (s.rs.getD r ar0).o2.length (s.ps.getD p []) pl).isSome then 1 else 0)), σ') ∧ FR [76, 77] σ σ' ∧ (∀ x, winF s.W (s.rs.getD r ar0).o1 (s.rs.getD r ar0).o2.length (s.ps.getD p []) pl = some x → RB (-4) σ' 76 77 x ∧ IB x.1 ∧ IC x.2) := by
  obtain ⟨a, ea⟩ : ∃ a, s.rs.getD r ar0 = a := ⟨_, rfl⟩
  obtain ⟨A, eA⟩ : ∃ A, s.ps.getD p [] = A := ⟨_, rfl⟩
  have mr := hM.rs r hr
  have fr := hs.fr _ (mem_rs hr)
  have pa := hM.ps p hp
  have fA := hs.fp _ (mem_ps hp)
  have hr24 := hs.r24
  have hp16 := hs.p16
  rw [ea] at mr fr
  rw [eA] at pa fA
  rw [ea, eA]
  obtain ⟨⟨rg, m1, m2, m3, m4, m5, m6, m7, m8, m9, m10⟩, -⟩ := mr
  have z24 := fA.1
  have R : ∀ {υ : jS} {g a : Nat}, jR υ g 47 = some a → (jR υ g 47).getD 0 = a ∧ jR υ g 47 ≠ none := fun h => by rw [h]; exact ⟨rfl, fun z => nomatch z⟩
  have c2r : (2 : Int32) * nI r = nI (2 * r) := by rw [show (2 : Int32) = nI 2 from rfl, nmul]
  have c2r1 : (2 : Int32) * nI r + 1 = nI (2 * r + 1) := by rw [c2r, ← nI_succ]
  have q0 := R (sR_645_47 hS)
  have q1 := R (sR_661_47 hS)
  have st : jx (d + 2) 182 0 [some (.ref 47), some (.int (nI p)), some (.int (nI pl)), some (.int (nI r)), none, none, none, none, none, none, none, none] [] σ = if nI A.length < nI pl + nI a.o1.length then some (some (.int 0), σ) else if nI A.length - nI a.o1.length + nI a.o2.length ≤ 24 then jx (d + 2) 182 53 [some (.ref 47), some (.int (nI p)), some (.int (nI pl)), some (.int (nI r)), some (.int (nI a.o1.length)), some (.int (nI 0)), none, none, none, none, none, none] [] σ else some (some (.int 0), σ) := by
    rw [k182_0 (sT_47 hS) q0.2 (by rw [q0.1]; exact Or.inl (sT_50 hS)) (by rw [q0.1, sN_50 hS, c2r]; exact jin_n (by omega) (by decide)) q1.2 (by rw [q1.1]; exact Or.inl (sT_65 hS)) (by rw [q1.1, sN_65 hS]; exact jin_n (by omega) (by decide)), q0.1, q1.1, c2r, nI_clamp (by omega), nI_clamp (by omega), m1, pa.1]
    by_cases w : nI A.length < nI pl + nI a.o1.length
    · rw [if_pos w, if_pos w, k182_48]
    · rw [if_neg w, if_neg w, k182_23 (sT_47 hS) q1.2 (by rw [q1.1]; exact Or.inl (sT_65 hS)) (by rw [q1.1, sN_65 hS]; exact jin_n (by omega) (by decide)) q0.2 (by rw [q0.1]; exact Or.inl (sT_50 hS)) (by rw [q0.1, sN_50 hS, c2r1]; exact jin_n (by omega) (by decide)), q0.1, q1.1, c2r1, nI_clamp (by omega), nI_clamp (by omega), m2, pa.1]
      by_cases w2 : nI A.length - nI a.o1.length + nI a.o2.length ≤ 24
      · rw [if_pos w2, if_pos w2, k182_50]; rfl
      · rw [if_neg w2, if_neg w2, k182_48]
  by_cases c1 : pl + a.o1.length ≤ A.length
  · have w1 : ¬ nI A.length < nI pl + nI a.o1.length := by rw [nadd, n31 (by omega) (by omega)]; omega
    by_cases c2 : A.length - a.o1.length + a.o2.length ≤ 24
    · have w2 : nI A.length - nI a.o1.length + nI a.o2.length ≤ 24 := by
        rw [nsub (by omega), nadd]; exact nI_le (b := 24) (by omega) (by decide)
      have wf : winF s.W a.o1 a.o2.length A pl = tkW s.W a.o1 A pl a.o1.length := if_pos ⟨c1, c2⟩
      rw [wf]
      -- all forgotten
      have L0 : ∀ f n υ, n + f = 4 → FR [76, 77] σ υ → (∀ k, k < n → jA υ 76 k = -4) → (∀ k, k < n → k < 3 → jA υ 77 k = -4) → ∃ υ', jx (d + 2) 182 53 [some (.ref 47), some (.int (nI p)), some (.int (nI pl)), some (.int (nI r)), some (.int (nI a.o1.length)), some (.int (nI n)), none, none, none, none, none, none] [] υ = jx (d + 2) 182 91 (w12 p pl r a.o1.length 1 0 none none none none none) [] υ' ∧ FR [76, 77] σ υ' ∧ RB (-4) υ' 76 77 (fun _ => none, fun _ => none) := by
        intro f
        induction f with
        | zero =>
          intro n υ hn F h1 h2
          have e : n = 4 := by omega
          subst e
          refine ⟨υ, ?_, F, h1, fun k hk => h2 k (by omega) hk⟩
          rw [k182_53, if_pos (by decide), k182_85]
          rfl
        | succ f ih =>
          intro n υ hn F h1 h2
          have hSu := F.sh hS
          have r6 := R (sR_676_47 hSu)
          have r7 := R (sR_677_47 hSu)
          have g4 : ¬ (4 : Int32) ≤ nI n := nI_ge (b := 4) (by omega) (by omega)
          have em := mod3n n (by omega)
          obtain ⟨υ', e', F', r'⟩ := ih (n + 1) (jsA (jsA υ 76 n (-4)) 77 (n % 3) (-4)) (by omega) ((F.A (by simp)).A (by simp)) (fun k hk => by
            rw [zA_A, if_neg (fun z => absurd z.1 (by decide)), zA_A]
            by_cases e : k = n
            · rw [if_pos ⟨rfl, e⟩]
            · rw [if_neg (fun z => e z.2)]; exact h1 k (by omega)) (fun k hk h3 => by
            rw [zA_A]
            by_cases e : k = n % 3
            · rw [if_pos ⟨rfl, e⟩]
            · rw [if_neg (fun z => e z.2), zA_A, if_neg (fun z => absurd z.1 (by decide))]; exact h2 k (by omega) h3)
          refine ⟨υ', ?_, F', r'⟩
          rw [← e', k182_53, if_neg g4, k182_59 (sT_47 hSu) r6.2 (by rw [r6.1]; exact sT_76 hSu) (by rw [r6.1, sN_76 hSu]; exact jin_n (by omega) (by decide)) r7.2 (by rw [r7.1]; exact sT_77 hSu) (by rw [r7.1, sN_77 hSu, em]; exact jin_n (by omega) (by decide)), r6.1, r7.1, em, nI_clamp (by omega), nI_clamp (by omega), ← nI_succ]
      obtain ⟨σ1, e1, F1, rb1⟩ := L0 4 0 σ rfl (FR.refl _ σ) (fun k hk => absurd hk (Nat.not_lt_zero k)) (fun k hk => absurd hk (Nat.not_lt_zero k))
      have no91 : ∀ {υ : jS} {i : Nat} {l7 l8 l9 l10 l11 : Option Value}, jx (d + 2) 182 91 (w12 p pl r a.o1.length 0 i l7 l8 l9 l10 l11) [] υ = some (some (.int 0), υ) := fun {υ i l7 l8 l9 l10 l11} => by
        rw [k182_91]
        by_cases q : nI a.o1.length ≤ nI i
        · rw [if_pos q, k182_329 (by decide)]
        · rw [if_neg q, k182_98, if_pos rfl, k182_329 (by decide)]
      have no239 : ∀ {υ : jS} {i : Nat} {l7 l8 l9 l10 l11 : Option Value}, jx (d + 2) 182 239 (w12 p pl r a.o1.length 0 i l7 l8 l9 l10 l11) [] υ = some (some (.int 0), υ) := fun {υ i l7 l8 l9 l10 l11} => by
        rw [k182_239, if_pos rfl, k182_323, ← nI_succ]
        exact no91
      have no161 : ∀ {υ : jS} {i : Nat} {l7 l8 l9 : Option Value} {x y : Nat}, jx (d + 2) 182 161 (w12 p pl r a.o1.length 0 i l7 l8 l9 (some (.int (nI x))) (some (.int (nI y)))) [] υ = some (some (.int 0), υ) := fun {υ i l7 l8 l9 x y} => by
        rw [k182_161]
        by_cases q : nI x ≤ nI y
        · rw [if_pos q]; exact no239
        · rw [if_neg q, k182_168, if_pos rfl]; exact no239
      have L : ∀ f n υ x l7 l8 l9 l10 l11, n + f = a.o1.length → FR [76, 77] σ υ → tkW s.W a.o1 A pl n = some x → RB (-4) υ 76 77 x → IB x.1 → IC x.2 → ∃ σ', jx (d + 2) 182 91 (w12 p pl r a.o1.length 1 n l7 l8 l9 l10 l11) [] υ = some (some (.int (if (tkW s.W a.o1 A pl a.o1.length).isSome then 1 else 0)), σ') ∧ FR [76, 77] σ σ' ∧ (∀ x', tkW s.W a.o1 A pl a.o1.length = some x' → RB (-4) σ' 76 77 x' ∧ IB x'.1 ∧ IC x'.2) := by
        intro f
        induction f with
        | zero =>
          intro n υ x l7 l8 l9 l10 l11 hn F ht hrb ib ic
          have e : n = a.o1.length := by omega
          subst e
          refine ⟨υ, ?_, F, fun x' hx' => by rw [ht, Option.some_inj] at hx'; subst hx'; exact ⟨hrb, ib, ic⟩⟩
          rw [k182_91, if_pos (nI_le (Nat.le_refl _) (by omega)), k182_329 (by decide), ht]
          rfl
        | succ f ih =>
          intro n υ x l7 l8 l9 l10 l11 hn F ht hrb ib ic
          have hlt : n < a.o1.length := by omega
          obtain ⟨o, eo⟩ : ∃ o, a.o1.getD n (fun _ => 0) = o := ⟨_, rfl⟩
          obtain ⟨q, eq⟩ : ∃ q, A.getD (pl + n) (fun _ => 0) = q := ⟨_, rfl⟩
          have wo := fr.f1 _ (mem_getD hlt)
          have wz := fr.z4 _ (mem_getD hlt)
          have wq := fA.2 _ (mem_getD (os := A) (n := pl + n) (by omega))
          have mo := m9 n hlt
          have pq := fun j (hj : j < 4) => pa.2.2 (pl + n) j (by omega) hj
          rw [eo] at wo wz mo
          rw [eq] at wq pq
          have nr4 := fr.nr4
          have nm3 := fr.nm3
          obtain ⟨ok1, ok2⟩ := wo.op
          obtain ⟨k1, k2, k3, k4, k5⟩ := mo
          have r3 := regN3 (opO o)
          have tj : tkW s.W a.o1 A pl (n + 1) = tkO s.W x o q := by
            show (tkW s.W a.o1 A pl n).bind _ = _
            rw [ht, eo, eq]; rfl
          have hSu := F.sh hS
          have wu : jI υ 640 47 = nI s.W := by rw [(F.2 47 (by decide)).1]; exact hM.w
          have AA : ∀ {τ : jS}, FR [76, 77] σ τ → ∀ z i, z ≠ 76 → z ≠ 77 → jA τ z i = jA σ z i := fun G z i h1 h2 => (G.2 z (by simp; omega)).2 i
          have e8 : (8 : Int32) * nI r + nI n = nI (8 * r + n) := by rw [show (8 : Int32) = nI 8 from rfl, nmul, nadd]
          have e24 : (24 : Int32) * nI p + nI pl + nI n = nI (24 * p + (pl + n)) := by rw [show (24 : Int32) = nI 24 from rfl, nmul, nadd, nadd, Nat.add_assoc]
          have s6 := R (sR_646_47 hSu)
          have s62 := R (sR_662_47 hSu)
          have a51 : jA υ 51 (8 * r + n) = nI (opO o) := by rw [AA F 51 _ (by decide) (by decide), k1]; exact ok2
          have a66 : jA υ 66 (24 * p + (pl + n)) = q 0 := by rw [AA F 66 _ (by decide) (by decide)]; exact pq 0 (by decide)
          have to137 : jx (d + 2) 182 91 (w12 p pl r a.o1.length 1 n l7 l8 l9 l10 l11) [] υ = if ¬ (q 0 = nI (opO o)) then jx (d + 2) 182 155 (w12 p pl r a.o1.length 1 n (some (.int (nI (8 * r + n)))) (some (.int (nI (24 * p + (pl + n))))) (some (.int (nI (opO o)))) (some (.int (nI (regN (opO o))))) l11) [] υ else jx (d + 2) 182 151 (w12 p pl r a.o1.length 1 n (some (.int (nI (8 * r + n)))) (some (.int (nI (24 * p + (pl + n))))) (some (.int (nI (opO o)))) (some (.int (nI (regN (opO o))))) l11) [] υ := by
            rw [k182_91, if_neg (nI_ge (by omega) (by omega)), k182_98, if_neg (by decide), k182_103 (sT_47 hSu) s6.2 (by rw [s6.1]; exact Or.inl (sT_51 hSu)) (by rw [s6.1, sN_51 hSu, e8]; exact jin_n (by omega) (by decide)), s6.1, e8, e24, nI_clamp (by omega), a51, c137 ok1]
            simp only [Option.bind_some, Option.toList_some, List.cons_append, List.nil_append]
            rw [k182_137 (sT_47 hSu) s62.2 (by rw [s62.1]; exact Or.inl (sT_66 hSu)) (by rw [s62.1, sN_66 hSu]; exact jin_n (by omega) (by decide)), s62.1, nI_clamp (by omega), a66]
          have fin : ∀ {υ' : jS}, FR [76, 77] σ υ' → tkO s.W x o q = none → jx (d + 2) 182 91 (w12 p pl r a.o1.length 1 n l7 l8 l9 l10 l11) [] υ = some (some (.int 0), υ') → ∃ σ', jx (d + 2) 182 91 (w12 p pl r a.o1.length 1 n l7 l8 l9 l10 l11) [] υ = some (some (.int (if (tkW s.W a.o1 A pl a.o1.length).isSome then 1 else 0)), σ') ∧ FR [76, 77] σ σ' ∧ (∀ x', tkW s.W a.o1 A pl a.o1.length = some x' → RB (-4) σ' 76 77 x' ∧ IB x'.1 ∧ IC x'.2) := fun {υ'} G hn' he => by
            have tn := tkW_none (tj.trans hn') a.o1.length (by omega)
            refine ⟨υ', ?_, G, fun x' hx' => by rw [tn] at hx'; cases hx'⟩
            rw [he, tn]
            rfl
          by_cases hk0 : q 0 = o 0
          · have opp : opO q = opO o := by unfold opO; rw [hk0]
            have preg : ∀ j, j < regN (opO o) → ∃ u, u < 4 ∧ q (j + 1) = nI u := fun j hj => wq.reg (by omega) (by rw [opp]; omega)
            have oreg : ∀ j, j < regN (opO o) → ∃ u, u < 4 ∧ o (j + 1) = nI u := fun j hj => by
              obtain ⟨K, v1, v2, v3, v4, v5⟩ := wo
              have ko : opO o = K := by unfold opO; rw [v2]; exact nI_clamp (by omega)
              obtain ⟨u, u1, u2⟩ := v3 j (by rw [← ko]; exact hj)
              exact ⟨u, by omega, u2⟩
            have LR : ∀ g j τ bj, j + g = regN (opO o) → FR [76, 77] σ τ → tkL x.1 o q j = some bj → RB (-4) τ 76 77 (bj, x.2) → IB bj → ∃ τ', FR [76, 77] σ τ' ∧ (match tkL x.1 o q (regN (opO o)) with | some b' => (jx (d + 2) 182 161 (w12 p pl r a.o1.length 1 n (some (.int (nI (8 * r + n)))) (some (.int (nI (24 * p + (pl + n))))) (some (.int (nI (opO o)))) (some (.int (nI (regN (opO o))))) (some (.int (nI j)))) [] τ = jx (d + 2) 182 239 (w12 p pl r a.o1.length 1 n (some (.int (nI (8 * r + n)))) (some (.int (nI (24 * p + (pl + n))))) (some (.int (nI (opO o)))) (some (.int (nI (regN (opO o))))) (some (.int (nI (regN (opO o)))))) [] τ') ∧ RB (-4) τ' 76 77 (b', x.2) ∧ IB b' | none => jx (d + 2) 182 161 (w12 p pl r a.o1.length 1 n (some (.int (nI (8 * r + n)))) (some (.int (nI (24 * p + (pl + n))))) (some (.int (nI (opO o)))) (some (.int (nI (regN (opO o))))) (some (.int (nI j)))) [] τ = some (some (.int 0), τ')) := by
              intro g
              induction g with
              | zero =>
                intro j τ bj hj G ht' hrb' hib
                have e : j = regN (opO o) := by omega
                subst e
                refine ⟨τ, G, ?_⟩
                rw [ht']
                refine ⟨?_, hrb', hib⟩
                rw [k182_161, if_pos (nI_le (Nat.le_refl _) (by omega))]
              | succ g ihg =>
                intro j τ bj hj G ht' hrb' hib
                obtain ⟨w, w4, w2⟩ := oreg j (by omega)
                obtain ⟨v, v4, v1⟩ := preg j (by omega)
                have hSt := G.sh hS
                have t76 := R (sR_676_47 hSt)
                have t47 := R (sR_647_47 hSt)
                have e3k : (3 : Int32) * nI (8 * r + n) + nI j = nI (3 * (8 * r + n) + j) := by rw [show (3 : Int32) = nI 3 from rfl, nmul, nadd]
                have a52 : jA τ 52 (3 * (8 * r + n) + j) = nI w := by
                  rw [AA G 52 _ (by decide) (by decide), k2 j (by show j < regN (opO o); omega)]; exact w2
                obtain ⟨τ1, e2, G2, g2⟩ := c183r (d := d + 1) (sT_76 hSt) (sN_76 hSt) hrb'.1 hib w4 v4
                have G2' : FR [76, 77] τ τ1 := G2.mono (fun a ha => by simp at ha; simp [ha])
                have aj : jA τ (66 + (j + 1)) (24 * p + (pl + n)) = nI v := by
                  rw [AA G _ _ (by omega) (by omega), pq (j + 1) (by omega)]; exact v1
                have i384 : jin 384 (nI (24 * p + (pl + n))) := jin_n (by omega) (by decide)
                have c384 : (nI (24 * p + (pl + n))).toNatClampNeg = 24 * p + (pl + n) := nI_clamp (by omega)
                have stp : jx (d + 2) 182 161 (w12 p pl r a.o1.length 1 n (some (.int (nI (8 * r + n)))) (some (.int (nI (24 * p + (pl + n))))) (some (.int (nI (opO o)))) (some (.int (nI (regN (opO o))))) (some (.int (nI j)))) [] τ = jx (d + 2) 182 161 (w12 p pl r a.o1.length (if (tkR bj w v).isSome then 1 else 0) n (some (.int (nI (8 * r + n)))) (some (.int (nI (24 * p + (pl + n))))) (some (.int (nI (opO o)))) (some (.int (nI (regN (opO o))))) (some (.int (nI (j + 1))))) [] τ1 := by
                  rw [k182_161, if_neg (nI_ge (by omega) (by omega)), k182_168, if_neg (by decide), k182_173 (sT_47 hSt) t76.2 t47.2 (by rw [t47.1]; exact Or.inl (sT_52 hSt)) (by rw [t47.1, sN_52 hSt, e3k]; exact jin_n (by omega) (by decide)), t47.1, t76.1, e3k, nI_clamp (by omega), a52]
                  rcases (show j = 0 ∨ j = 1 ∨ j = 2 by omega) with h | h | h
                  · subst h
                    have t := R (sR_663_47 hSt)
                    rw [if_neg (fun z => z rfl), k182_194 (sT_47 hSt) t.2 (by rw [t.1]; exact Or.inl (sT_67 hSt)) (by rw [t.1, sN_67 hSt]; exact i384), t.1, c384, aj, e2]
                    simp only [Option.bind_some, Option.toList_some, List.cons_append, List.nil_append]
                    rw [k182_231, ← nI_succ]
                  · subst h
                    have t := R (sR_664_47 hSt)
                    rw [if_pos (by decide), k182_204, if_neg (fun z => z rfl), k182_210 (sT_47 hSt) t.2 (by rw [t.1]; exact Or.inl (sT_68 hSt)) (by rw [t.1, sN_68 hSt]; exact i384), t.1, c384, aj, e2]
                    simp only [Option.bind_some, Option.toList_some, List.cons_append, List.nil_append]
                    rw [k182_231, ← nI_succ]
                  · subst h
                    have t := R (sR_665_47 hSt)
                    rw [if_pos (by decide), k182_204, if_pos (by decide), k182_220 (sT_47 hSt) t.2 (by rw [t.1]; exact Or.inl (sT_69 hSt)) (by rw [t.1, sN_69 hSt]; exact i384), t.1, c384, aj, e2]
                    simp only [Option.bind_some, Option.toList_some, List.cons_append, List.nil_append]
                    rw [k182_231, ← nI_succ]
                have tjj : tkL x.1 o q (j + 1) = tkR bj w v := by
                  show (tkL x.1 o q j).bind _ = _
                  rw [ht']
                  show tkR bj (o (j + 1)).toNatClampNeg (q (j + 1)).toNatClampNeg = _
                  rw [w2, v1, nI_clamp (by omega), nI_clamp (by omega)]
                cases hT : tkR bj w v with
                | none =>
                  rw [hT] at tjj stp
                  have tn := tkL_none tjj (regN (opO o)) (by omega)
                  refine ⟨τ1, G.trans G2', ?_⟩
                  rw [tn]
                  exact stp.trans no161
                | some b1 =>
                  rw [hT] at tjj stp
                  obtain ⟨τ', G', r'⟩ := ihg (j + 1) τ1 b1 (by omega) (G.trans G2') tjj ⟨g2 b1 hT, fun k hk => by rw [(G2.2 77 (by decide)).2]; exact hrb'.2 k hk⟩ (tkR_iv v4 hib hT)
                  refine ⟨τ', G', ?_⟩
                  have stp' : jx (d + 2) 182 161 (w12 p pl r a.o1.length 1 n (some (.int (nI (8 * r + n)))) (some (.int (nI (24 * p + (pl + n))))) (some (.int (nI (opO o)))) (some (.int (nI (regN (opO o))))) (some (.int (nI j)))) [] τ = jx (d + 2) 182 161 (w12 p pl r a.o1.length 1 n (some (.int (nI (8 * r + n)))) (some (.int (nI (24 * p + (pl + n))))) (some (.int (nI (opO o)))) (some (.int (nI (regN (opO o))))) (some (.int (nI (j + 1))))) [] τ1 := stp
                  rw [stp']
                  exact r'
            obtain ⟨τ1, G1, r1⟩ := LR (regN (opO o)) 0 υ x.1 (by omega) F rfl hrb ib
            have to161 : jx (d + 2) 182 91 (w12 p pl r a.o1.length 1 n l7 l8 l9 l10 l11) [] υ = jx (d + 2) 182 161 (w12 p pl r a.o1.length 1 n (some (.int (nI (8 * r + n)))) (some (.int (nI (24 * p + (pl + n))))) (some (.int (nI (opO o)))) (some (.int (nI (regN (opO o))))) (some (.int (nI 0)))) [] υ := by
              rw [to137, if_neg (fun z => z (by rw [hk0, ok2])), k182_151]
              rfl
            cases hL : tkL x.1 o q (regN (opO o)) with
            | none =>
              rw [hL] at r1
              have tn : tkO s.W x o q = none := by unfold tkO; rw [if_pos hk0, hL]; rfl
              exact fin G1 tn (to161.trans r1)
            | some b1 =>
              rw [hL] at r1
              obtain ⟨e2, hrb1, ib1⟩ := r1
              have hS1 := G1.sh hS
              have cn := c143 (d := d + 1) (σ := τ1) ok1
              by_cases hnum : numN (opO o) = true
              · obtain ⟨v, v8, ev⟩ := wq.y
                have tn : tkO s.W x o q = (tkN s.W (opO o) x.2 (o 2) (nI v)).map (fun c' => (b1, c')) := by
                  unfold tkO
                  rw [if_pos hk0, hL]
                  show (if numN (opO o) = true then _ else _) = _
                  rw [if_pos hnum, ev]
                have mt := k3 hnum
                have e2k : (2 : Int32) * nI (8 * r + n) = nI (2 * (8 * r + n)) := by rw [show (2 : Int32) = nI 2 from rfl, nmul]
                have t48 := R (sR_648_47 hS1)
                have t49 := R (sR_649_47 hS1)
                have t64 := R (sR_664_47 hS1)
                have t77 := R (sR_677_47 hS1)
                have i384 : jin 384 (nI (2 * (8 * r + n))) := jin_n (by omega) (by decide)
                have c384 : (nI (2 * (8 * r + n))).toNatClampNeg = 2 * (8 * r + n) := nI_clamp (by omega)
                have j384 : jin 384 (nI (24 * p + (pl + n))) := jin_n (by omega) (by decide)
                have d384 : (nI (24 * p + (pl + n))).toNatClampNeg = 24 * p + (pl + n) := nI_clamp (by omega)
                have a68 : jA τ1 68 (24 * p + (pl + n)) = nI v := by rw [AA G1 68 _ (by decide) (by decide), ← ev]; exact pq 2 (by decide)
                have to252 : jx (d + 2) 182 91 (w12 p pl r a.o1.length 1 n l7 l8 l9 l10 l11) [] υ = if jA τ1 53 (2 * (8 * r + n)) = 0 then jx (d + 2) 182 291 (w12 p pl r a.o1.length 1 n (some (.int (nI (8 * r + n)))) (some (.int (nI (24 * p + (pl + n))))) (some (.int (nI (opO o)))) (some (.int (nI (regN (opO o))))) (some (.int (nI (regN (opO o)))))) [] τ1 else jx (d + 2) 182 264 (w12 p pl r a.o1.length 1 n (some (.int (nI (8 * r + n)))) (some (.int (nI (24 * p + (pl + n))))) (some (.int (nI (opO o)))) (some (.int (nI (regN (opO o))))) (some (.int (nI (regN (opO o)))))) [] τ1 := by
                  rw [to161, e2, k182_239, if_neg (by decide), k182_244, cn, if_pos hnum]
                  simp only [Option.bind_some, Option.toList_some, List.cons_append, List.nil_append]
                  rw [k182_249, if_neg (by decide), k182_252 (sT_47 hS1) t48.2 (by rw [t48.1]; exact Or.inr (sT_53 hS1)) (by rw [t48.1, sN_53 hS1, e2k]; exact i384), t48.1, e2k, c384]
                rcases keep2 hs.w nm3 wo wz hnum with ⟨i, hi, ei, _⟩ | ⟨u, hu, nu, _, eu⟩
                · have q16 := i16n (i := i) (by omega)
                  have mt1 := mt.2 (by rw [ei]; exact q16.1)
                  rw [ei, q16.2.2] at mt1
                  have a53 : jA τ1 53 (2 * (8 * r + n)) = 1 := by rw [AA G1 53 _ (by decide) (by decide)]; exact mt1.1
                  have a54 : jA τ1 54 (2 * (8 * r + n)) = nI i := by rw [AA G1 54 _ (by decide) (by decide)]; exact mt1.2
                  have tnm : tkN s.W (opO o) x.2 (o 2) (nI v) = tkM x.2 i v := by
                    unfold tkN
                    rw [ei, if_pos q16.1, q16.2.2, nI_clamp (by omega), nI_clamp (by omega)]
                  rw [tnm] at tn
                  obtain ⟨τ2, e3, G3, g3⟩ := c183m (d := d + 1) (sT_77 hS1) (sN_77 hS1) hrb1.2 ic (w := i) (by omega) v8
                  have G3' : FR [76, 77] τ1 τ2 := G3.mono (fun a ha => by simp at ha; simp [ha])
                  have stp : jx (d + 2) 182 91 (w12 p pl r a.o1.length 1 n l7 l8 l9 l10 l11) [] υ = jx (d + 2) 182 91 (w12 p pl r a.o1.length (if (tkM x.2 i v).isSome then 1 else 0) (n + 1) (some (.int (nI (8 * r + n)))) (some (.int (nI (24 * p + (pl + n))))) (some (.int (nI (opO o)))) (some (.int (nI (regN (opO o))))) (some (.int (nI (regN (opO o)))))) [] τ2 := by
                    rw [to252, a53, if_neg (by decide), k182_264 (sT_47 hS1) t77.2 t49.2 (by rw [t49.1]; exact Or.inl (sT_54 hS1)) (by rw [t49.1, sN_54 hS1, e2k]; exact i384) t64.2 (by rw [t64.1]; exact Or.inl (sT_68 hS1)) (by rw [t64.1, sN_68 hS1]; exact j384), t77.1, t49.1, t64.1, e2k, c384, d384, a54, a68, e3]
                    simp only [Option.bind_some, Option.toList_some, List.cons_append, List.nil_append]
                    rw [k182_288, ← nI_succ]
                  cases hT : tkM x.2 i v with
                  | none =>
                    rw [hT] at stp tn
                    exact fin (G1.trans G3') tn (stp.trans no91)
                  | some c1 =>
                    rw [hT] at stp tn
                    obtain ⟨σ', e4, F4, r4⟩ := ih (n + 1) τ2 (b1, c1) _ _ _ _ _ (by omega) (G1.trans G3') (tj.trans tn) ⟨fun k hk => by rw [(G3.2 76 (by decide)).2]; exact hrb1.1 k hk, g3 c1 hT⟩ ib1 (tkM_iv v8 ic hT)
                    exact ⟨σ', stp.trans e4, F4, r4⟩
                · have mt0 := mt.1 (by rw [← Int32.not_le]; exact nu)
                  have a53 : jA τ1 53 (2 * (8 * r + n)) = 0 := by rw [AA G1 53 _ (by decide) (by decide)]; exact mt0.1
                  have a54 : jA τ1 54 (2 * (8 * r + n)) = o 2 := by rw [AA G1 54 _ (by decide) (by decide)]; exact mt0.2
                  have w1' : jI τ1 640 47 = nI s.W := by rw [(G1.2 47 (by decide)).1]; exact hM.w
                  have c5 := c155 (d := d) hS1 hs.w w1' ok1 (o 2)
                  rw [eu] at c5
                  have tnm : tkN s.W (opO o) x.2 (o 2) (nI v) = if u = v then some x.2 else none := by
                    unfold tkN
                    rw [if_neg nu, eu]
                    by_cases e : u = v
                    · rw [if_pos (by rw [e]), if_pos e]
                    · rw [if_neg (by rw [n31eq (by omega) (by omega)]; exact e), if_neg e]
                  have to306 : jx (d + 2) 182 91 (w12 p pl r a.o1.length 1 n l7 l8 l9 l10 l11) [] υ = if ¬ (nI u = nI v) then jx (d + 2) 182 320 (w12 p pl r a.o1.length 1 n (some (.int (nI (8 * r + n)))) (some (.int (nI (24 * p + (pl + n))))) (some (.int (nI (opO o)))) (some (.int (nI (regN (opO o))))) (some (.int (nI (regN (opO o)))))) [] τ1 else jx (d + 2) 182 316 (w12 p pl r a.o1.length 1 n (some (.int (nI (8 * r + n)))) (some (.int (nI (24 * p + (pl + n))))) (some (.int (nI (opO o)))) (some (.int (nI (regN (opO o))))) (some (.int (nI (regN (opO o)))))) [] τ1 := by
                    rw [to252, a53, if_pos rfl, k182_291 (sT_47 hS1) t49.2 (by rw [t49.1]; exact Or.inl (sT_54 hS1)) (by rw [t49.1, sN_54 hS1, e2k]; exact i384), t49.1, e2k, c384, a54, c5]
                    simp only [Option.bind_some, Option.toList_some, List.cons_append, List.nil_append]
                    rw [k182_306 (sT_47 hS1) t64.2 (by rw [t64.1]; exact Or.inl (sT_68 hS1)) (by rw [t64.1, sN_68 hS1]; exact j384), t64.1, d384, a68]
                  by_cases e : u = v
                  · rw [tnm, if_pos e] at tn
                    obtain ⟨σ', e4, F4, r4⟩ := ih (n + 1) τ1 (b1, x.2) _ _ _ _ _ (by omega) G1 (tj.trans tn) hrb1 ib1 ic
                    refine ⟨σ', ?_, F4, r4⟩
                    rw [to306, if_neg (fun z => z (by rw [e])), k182_316, ← nI_succ]
                    exact e4
                  · rw [tnm, if_neg e] at tn
                    refine fin G1 tn ?_
                    rw [to306, if_pos (by rw [n31eq (by omega) (by omega)]; exact e), k182_320, ← nI_succ]
                    exact no91
              · have tn : tkO s.W x o q = some (b1, x.2) := by
                  unfold tkO
                  rw [if_pos hk0, hL]
                  show (if numN (opO o) = true then _ else _) = _
                  rw [if_neg hnum]
                obtain ⟨σ', e4, F4, r4⟩ := ih (n + 1) τ1 (b1, x.2) _ _ _ _ _ (by omega) G1 (tj.trans tn) hrb1 ib1 ic
                refine ⟨σ', ?_, F4, r4⟩
                rw [to161, e2, k182_239, if_neg (by decide), k182_244, cn, if_neg hnum]
                simp only [Option.bind_some, Option.toList_some, List.cons_append, List.nil_append]
                rw [k182_249, if_pos rfl, k182_323, ← nI_succ]
                exact e4
          · have tn : tkO s.W x o q = none := by unfold tkO; rw [if_neg hk0]
            refine fin F tn ?_
            rw [to137, if_pos (fun z => hk0 (by rw [z, ok2])), k182_155]
            exact no161 (y := 0)
      obtain ⟨σ', e3, F3, r3⟩ := L a.o1.length 0 σ1 _ none none none none none (by omega) F1 rfl rb1 ⟨(fun i v _ h => nomatch h), (fun i j v _ _ h => nomatch h)⟩ (fun i v _ h => nomatch h)
      refine ⟨σ', ?_, F3, r3⟩
      rw [st, if_neg w1, if_pos w2, e1]
      exact e3
    · have w2 : ¬ nI A.length - nI a.o1.length + nI a.o2.length ≤ 24 := by
        have := fr.m4
        rw [nsub (by omega), nadd, show (24 : Int32) = nI 24 from rfl, n31le (by omega) (by decide)]; omega
      have wf : winF s.W a.o1 a.o2.length A pl = none := if_neg (fun z => c2 z.2)
      refine ⟨σ, ?_, FR.refl _ σ, fun x hx => by rw [wf] at hx; cases hx⟩
      rw [st, if_neg w1, if_neg w2, wf]
      rfl
  · have w1 : nI A.length < nI pl + nI a.o1.length := by rw [nadd, n31 (by omega) (by omega)]; omega
    have wf : winF s.W a.o1 a.o2.length A pl = none := if_neg (fun z => c1 z.1)
    refine ⟨σ, ?_, FR.refl _ σ, fun x hx => by rw [wf] at hx; cases hx⟩
    rw [st, if_pos w1, wf]
    rfl
end WI4
end S_98
section S_99
/-! window, meant -/
def PLc (s : AS) (x y z : Int32) : Prop := inR x s.ps.length ∧ inR z s.rs.length ∧ inR y (s.ps.getD x.toNatClampNeg []).length
section WI5
variable {d : Nat} {σ : jS} {s : AS} {cr cp : Nat} {qr qp : Nat → Nat}
theorem PLc.nat (hs : WFs s) {x y z : Int32} (h : PLc s x y z) : ∃ p i r, p < s.ps.length ∧ i < (s.ps.getD p []).length ∧ r < s.rs.length ∧ x = nI p ∧ y = nI i ∧ z = nI r := by
  have hl := hs.p16
  have hr := hs.r24
  obtain ⟨h1, h2, h3⟩ := h
  obtain ⟨p, hp, ep⟩ := inR_nat (by omega) h1
  obtain ⟨r, hr', er⟩ := inR_nat (by omega) h2
  have cpn : x.toNatClampNeg = p := by rw [ep]; exact nI_clamp (by omega)
  rw [cpn] at h3
  have := (hs.fp _ (mem_ps hp)).1
  obtain ⟨i, hi, ei⟩ := inR_nat (by omega) h3
  exact ⟨p, i, r, hp, hi, hr', ep, ei, er⟩
theorem c181 (hS : SH σ) (hs : WFs s) (hM : CM s σ) (x y z : Int32) : ∃ v : Int32, jx (d + 2) 181 0 [some (.ref 47), some (.int x), some (.int y), some (.int z)] [] σ = some (some (.int v), σ) ∧ (PLc s x y z → v = 1) ∧ (¬ PLc s x y z → v = 0) := by
  have hl := hs.p16
  by_cases h1 : inR x s.ps.length
  · have a := c170y (d := d) hS hM hs h1
    obtain ⟨p, hp, ep⟩ := inR_nat (by omega) h1
    have cpn : x.toNatClampNeg = p := by rw [ep]; exact nI_clamp (by omega)
    by_cases h2 : inR z s.rs.length
    · have b := c162y (d := d) hS hM hs h2
      have pa := hM.ps p hp
      have l24 := (hs.fp _ (mem_ps hp)).1
      have rg : (jR σ 661 47).getD 0 = 65 := by rw [sR_661_47 hS]; rfl
      have rn : jR σ 661 47 ≠ none := by rw [sR_661_47 hS]; exact fun z => nomatch z
      have st : jx (d + 2) 181 0 [some (.ref 47), some (.int x), some (.int y), some (.int z)] [] σ = (some (some (.int (if 0 ≤ y ∧ y ≤ nI (s.ps.getD p []).length - 1 then 1 else 0)), σ) : jr).bind (fun z' => jx (d + 2) 181 31 [some (.ref 47), some (.int x), some (.int y), some (.int z)] (z'.1.toList ++ []) z'.2) := by
        rw [k181_0 (sT_47 hS), a]
        simp only [Option.bind_some, Option.toList_some, List.cons_append, List.nil_append]
        rw [k181_5, if_neg (by decide), k181_8 (sT_47 hS), b]
        simp only [Option.bind_some, Option.toList_some, List.cons_append, List.nil_append]
        rw [k181_13, if_neg (by decide), ep, k181_16 (sT_47 hS) rn (by rw [rg]; exact Or.inl (sT_65 hS)) (by rw [rg, sN_65 hS]; exact jin_n (by omega) (by decide)), rg, nI_clamp (by omega), pa.1, cin0]
        simp only [Option.bind_some, Option.toList_some, List.cons_append, List.nil_append]
      rw [st]
      by_cases h3 : inR y (s.ps.getD p []).length
      · have e : (if 0 ≤ y ∧ y ≤ nI (s.ps.getD p []).length - 1 then (1 : Int32) else 0) = 1 := if_pos ((rng_iff (by omega)).mpr h3)
        refine ⟨1, ?_, fun _ => rfl, fun q => absurd ⟨h1, h2, by rw [cpn]; exact h3⟩ q⟩
        rw [e]
        simp only [Option.bind_some, Option.toList_some, List.cons_append, List.nil_append]
        rw [k181_31, if_neg (by decide), k181_34]
      · have e : (if 0 ≤ y ∧ y ≤ nI (s.ps.getD p []).length - 1 then (1 : Int32) else 0) = 0 := if_neg (fun q => h3 ((rng_iff (by omega)).mp q))
        refine ⟨0, ?_, fun q => absurd (by have := q.2.2; rw [cpn] at this; exact this) h3, fun _ => rfl⟩
        rw [e]
        simp only [Option.bind_some, Option.toList_some, List.cons_append, List.nil_append]
        rw [k181_31, if_pos rfl, k181_38]
    · have b := c162n (d := d) hS hM hs h2
      refine ⟨0, ?_, fun q => absurd q.2.1 h2, fun _ => rfl⟩
      rw [k181_0 (sT_47 hS), a]
      simp only [Option.bind_some, Option.toList_some, List.cons_append, List.nil_append]
      rw [k181_5, if_neg (by decide), k181_8 (sT_47 hS), b]
      simp only [Option.bind_some, Option.toList_some, List.cons_append, List.nil_append]
      rw [k181_13, if_pos rfl, k181_38]
  · have a := c170n (d := d) hS hM hs h1
    refine ⟨0, ?_, fun q => absurd q.1 h1, fun _ => rfl⟩
    rw [k181_0 (sT_47 hS), a]
    simp only [Option.bind_some, Option.toList_some, List.cons_append, List.nil_append]
    rw [k181_5, if_pos rfl, k181_38]
theorem c181y (hS : SH σ) (hs : WFs s) (hM : CM s σ) {x y z : Int32} (h : PLc s x y z) : jx (d + 2) 181 0 [some (.ref 47), some (.int x), some (.int y), some (.int z)] [] σ = some (some (.int 1), σ) := by
  obtain ⟨v, e, q, _⟩ := c181 (d := d) hS hs hM x y z
  rw [q h] at e; exact e
theorem c181n (hS : SH σ) (hs : WFs s) (hM : CM s σ) {x y z : Int32} (h : ¬ PLc s x y z) : jx (d + 2) 181 0 [some (.ref 47), some (.int x), some (.int y), some (.int z)] [] σ = some (some (.int 0), σ) := by
  obtain ⟨v, e, _, q⟩ := c181 (d := d) hS hs hM x y z
  rw [q h] at e; exact e
/-- what the class asks first: programAt, ruleAt, has -/
theorem cls_pl (hS : SH σ) (hs : WFs s) (hC : CX s cr cp qr qp σ) (x y z : Int32) : (PLc s x y z → ∃ p i r, p < s.ps.length ∧ i < (s.ps.getD p []).length ∧ r < s.rs.length ∧ x = nI p ∧ y = nI i ∧ z = nI r ∧ jx (d + 2) 86 0 [some (.ref 16), some (.int x)] [] σ = some (some (.ref (qp p)), σ) ∧ jx (d + 2) 81 0 [some (.ref 16), some (.int z)] [] σ = some (some (.ref (qr r)), σ) ∧ jx (d + 2) 52 0 [some (.ref (qp p)), some (.int y)] [] σ = some (some (.int 1), σ)) ∧ (¬ PLc s x y z → (jx (d + 2) 86 0 [some (.ref 16), some (.int x)] [] σ = some (some .null, σ) ∧ ((∃ r, jx (d + 2) 81 0 [some (.ref 16), some (.int z)] [] σ = some (some (.ref r), σ)) ∨ jx (d + 2) 81 0 [some (.ref 16), some (.int z)] [] σ = some (some .null, σ))) ∨ (∃ p, p < s.ps.length ∧ jx (d + 2) 86 0 [some (.ref 16), some (.int x)] [] σ = some (some (.ref (qp p)), σ) ∧ (((∃ r, jx (d + 2) 81 0 [some (.ref 16), some (.int z)] [] σ = some (some (.ref r), σ)) ∧ jx (d + 2) 52 0 [some (.ref (qp p)), some (.int y)] [] σ = some (some (.int 0), σ)) ∨ (jx (d + 2) 81 0 [some (.ref 16), some (.int z)] [] σ = some (some .null, σ) ∧ (jx (d + 2) 52 0 [some (.ref (qp p)), some (.int y)] [] σ = some (some (.int 0), σ) ∨ jx (d + 2) 52 0 [some (.ref (qp p)), some (.int y)] [] σ = some (some (.int 1), σ)))))) := by
  have hl := hs.p16
  have hr24 := hs.r24
  refine ⟨fun h => ?_, fun h => ?_⟩
  · obtain ⟨p, i, r, hp, hi, hr, ep, ei, er⟩ := h.nat hs
    refine ⟨p, i, r, hp, hi, hr, ep, ei, er, by rw [ep]; exact c86y hS hC hs hp, by rw [er]; exact c81y hS hC hs hr, ?_⟩
    have := (hs.fp _ (mem_ps hp)).1
    have q : ¬ nI i < 0 ∧ nI i < nI (s.ps.getD p []).length := inR_k (by omega) hi
    rw [c52 (hC.ps p hp).1, ei, if_pos q]
  · have C81 : (∃ r, jx (d + 2) 81 0 [some (.ref 16), some (.int z)] [] σ = some (some (.ref r), σ)) ∨ jx (d + 2) 81 0 [some (.ref 16), some (.int z)] [] σ = some (some .null, σ) := by
      by_cases h2 : inR z s.rs.length
      · obtain ⟨r, hr, er⟩ := inR_nat (by omega) h2
        exact Or.inl ⟨_, by rw [er]; exact c81y hS hC hs hr⟩
      · exact Or.inr (c81n hS hC h2)
    by_cases h1 : inR x s.ps.length
    · obtain ⟨p, hp, ep⟩ := inR_nat (by omega) h1
      have cpn : x.toNatClampNeg = p := by rw [ep]; exact nI_clamp (by omega)
      refine Or.inr ⟨p, hp, by rw [ep]; exact c86y hS hC hs hp, ?_⟩
      have c5 := c52 (d := d + 2) (hC.ps p hp).1 y
      by_cases h3 : inR y (s.ps.getD p []).length
      · have h3' : ¬ y < 0 ∧ y < nI (s.ps.getD p []).length := h3
        rw [if_pos h3'] at c5
        have h2 : ¬ inR z s.rs.length := fun q => h ⟨h1, q, by rw [cpn]; exact h3⟩
        exact Or.inr ⟨c81n hS hC h2, Or.inr c5⟩
      · have h3' : ¬ (¬ y < 0 ∧ y < nI (s.ps.getD p []).length) := h3
        rw [if_neg h3'] at c5
        rcases C81 with q | q
        · exact Or.inl ⟨q, c5⟩
        · exact Or.inr ⟨q, Or.inl c5⟩
    · exact Or.inl ⟨c86n hS hC h1, C81⟩
/-- the reference's scratch of windows alone has changed -/
theorem CM.w7 {σ' : jS} (hs : WFs s) (hM : CM s σ) (F : FR [76, 77] σ σ') : CM s σ' := hM.ar hs (P := fun a _ => a = 76 ∨ a = 77) (fun g _ _ _ => (F.2 47 (by decide)).1 g) (fun a i h1 h2 hn => (F.2 a (by simpa using hn)).2 i) (fun a i hp => by unfold PSF; omega)
theorem sim_window (hR : REL s cr cp qr qp σ) (x y z : Int32) : SimR (d + 5) 96 180 [some (.int x), some (.int y), some (.int z), none, none] [some (.int x), some (.int y), some (.int z)] true σ := by
  have hR0 := hR
  obtain ⟨hS, hx, hs, hC, hM⟩ := hR
  have r8 : (jR σ 580 16).getD 0 = 38 := by rw [sR_580_16 hS]; rfl
  have n8 : jR σ 580 16 ≠ none := by rw [sR_580_16 hS]; exact fun z => nomatch z
  obtain ⟨P1, P2⟩ := cls_pl (d := d + 2) hS hs hC x y z
  by_cases h : PLc s x y z
  · obtain ⟨p, i, r, hp, hi, hr, ep, ei, er, a1, a2, a3⟩ := P1 h
    have l24 := (hs.fp _ (mem_ps hp)).1
    obtain ⟨σ1, e1, F1, _⟩ := c97 (d := d) hS hs hC hp hr (pl := i) (by omega)
    have hS1 := F1.sh hS
    have hC1 : CX s cr cp qr qp σ1 := hC.scr F1 (by decide)
    have hM1 := hM.sm (F1.sm (fun a h1 h2 => by simp; omega))
    obtain ⟨σ2, e2, F2, _⟩ := c182 (d := d + 2) hS1 hs hM1 hp hr (pl := i) (by omega)
    have hM2 := hM1.w7 hs F2
    have sc2 := F2.sc (fun a ha => by simp at ha; omega)
    have nx1 : jnx σ1 = jnx σ := F1.1.2.2.2.2.1
    have nx2 : jnx σ2 = jnx σ1 := F2.1.2.2.2.2.1
    have sl1 : jsl σ1 = jsl σ := F1.1.2.2.2.2.2
    have sl2 : jsl σ2 = jsl σ1 := F2.1.2.2.2.2.2
    have b1 := c181y (d := d + 2) hS1 hs hM1 h
    obtain ⟨B, eB⟩ : ∃ B : Bool, (winF s.W (s.rs.getD r ar0).o1 (s.rs.getD r ar0).o2.length (s.ps.getD p []) i).isSome = B := ⟨_, rfl⟩
    rw [eB] at e1 e2
    refine ⟨if B = true then 1 else 0, if B = true then 1 else 0, σ1, σ2, s, cr, cp, qr, qp, ?_, ?_, ⟨F2.sh hS1, by omega, hs, CX.sc (by omega) hC1 sc2, hM2⟩, by omega, by omega, (F1.low (by simp)).trans (sc2.low (by omega)), fun _ => rfl⟩
    · rw [← ei] at e1
      rw [k96_0 (sT_16 hS), a1]
      simp only [Option.bind_some, Option.toList_some, List.cons_append, List.nil_append]
      rw [k96_5R (sT_16 hS), a2]
      simp only [Option.bind_some, Option.toList_some, List.cons_append, List.nil_append]
      rw [k96_12RR (hC.ps p hp).1.1, a3]
      simp only [Option.bind_some, Option.toList_some, List.cons_append, List.nil_append]
      rw [k96_25, if_neg (by decide), k96_28RR (sT_16 hS) n8 (by rw [r8]; exact sT_38 hS), r8, e1]
      simp only [Option.bind_some, Option.toList_some, List.cons_append, List.nil_append]
      rw [k96_47, c82 (d := d + 4) (if B = true then 1 else 0) (by cases B; exact Or.inl rfl; exact Or.inr rfl)]
      simp only [Option.bind_some, Option.toList_some, List.cons_append, List.nil_append]
      rw [k96_50]
    · rw [← ei, ← ep, ← er] at e2
      rw [k180_0 (sT_47 hS1), b1]
      simp only [Option.bind_some, Option.toList_some, List.cons_append, List.nil_append]
      rw [k180_7, if_pos (by decide), k180_12 (sT_47 hS1), e2]
      simp only [Option.bind_some, Option.toList_some, List.cons_append, List.nil_append]
      rw [k180_19]
      cases B
      · rw [if_pos (by decide), k180_26]; rfl
      · rw [if_neg (by decide), k180_22]; rfl
  · have b1 := c181n (d := d + 2) hS hs hM h
    refine SimR.read hR0 (a := -1) (a' := -1) ?_ ?_ (fun _ => rfl)
    · rcases P2 h with ⟨a1, ⟨r, a2⟩ | a2⟩ | ⟨p, hp, a1, ⟨⟨r, a2⟩, a3⟩ | ⟨a2, a3 | a3⟩⟩
      · simp (decide := true) only [k96_0, k96_5R, k96_5N, k96_12RR, k96_12RN, k96_12NR, k96_12NN, k96_19R, k96_25, k96_28N, k96_28RR, k96_28RN, k96_33, k96_35RR, k96_35RN, k96_35NR, k96_35NN, k96_47, k96_50, a1, a2, sT_1, sT_2, sT_3, sT_16, sT_17, sT_18, sT_19, sT_20, sT_21, sT_22, sT_23, sT_24, sT_25, sT_26, sT_27, sT_28, sT_29, sT_30, sT_31, sT_32, sT_33, sT_34, sT_35, sT_36, sT_37, sT_38, sT_39, sT_40, sT_41, sT_42, sT_43, sT_44, sT_45, sT_46, sT_47, sT_48, sT_49, sT_50, sT_51, sT_52, sT_53, sT_54, sT_55, sT_56, sT_57, sT_58, sT_59, sT_60, sT_61, sT_62, sT_63, sT_64, sT_65, sT_66, sT_67, sT_68, sT_69, sT_70, sT_71, sT_72, sT_73, sT_74, sT_75, sT_76, sT_77, sT_78, sT_79, sT_80, sN_1, sN_2, sN_19, sN_21, sN_23, sN_24, sN_26, sN_29, sN_31, sN_33, sN_35, sN_36, sN_37, sN_39, sN_40, sN_42, sN_44, sN_45, sN_46, sN_48, sN_49, sN_50, sN_51, sN_52, sN_53, sN_54, sN_55, sN_56, sN_57, sN_58, sN_59, sN_60, sN_61, sN_62, sN_63, sN_64, sN_65, sN_66, sN_67, sN_68, sN_69, sN_70, sN_71, sN_72, sN_73, sN_74, sN_75, sN_76, sN_77, sN_78, sN_79, sN_80, sR_0_34, sR_0_38, sR_1_34, sR_1_38, sR_64_20, sR_64_22, sR_128_25, sR_128_28, sR_194_17, sR_195_17, sR_196_17, sR_197_17, sR_258_30, sR_258_32, sR_258_41, sR_384_43, sR_448_18, sR_512_27, sR_513_27, sR_514_27, sR_515_27, sR_516_27, sR_576_16, sR_577_16, sR_578_16, sR_579_16, sR_580_16, sR_581_16, sR_582_16, sR_583_16, sR_584_16, sR_641_47, sR_643_47, sR_645_47, sR_646_47, sR_647_47, sR_648_47, sR_649_47, sR_650_47, sR_651_47, sR_652_47, sR_653_47, sR_654_47, sR_655_47, sR_656_47, sR_657_47, sR_658_47, sR_659_47, sR_661_47, sR_662_47, sR_663_47, sR_664_47, sR_665_47, sR_669_47, sR_670_47, sR_671_47, sR_672_47, sR_673_47, sR_674_47, sR_676_47, sR_677_47, sR_679_47, sR_680_47, sR_681_47, SH_I, SH_A, SH_G, SH_C, hS, Option.getD_some, ne_eq, reduceCtorEq, not_false_eq_true, not_true_eq_false, Option.bind_some, Option.toList_none, Option.toList_some, List.nil_append, List.cons_append, List.append_nil, ↓reduceIte, and_self, true_and, and_true, false_and, and_false, or_true, true_or, or_false, false_or, Nat.reduceEqDiff, Nat.reduceAdd, Int32.reduceMul, Int32.reduceAdd, Int32.reduceSub, Int32.reduceToNatClampNeg, Int32.reduceOfNat, Int32.reduceLT, Int32.reduceLE, va_rf]
      · simp (decide := true) only [k96_0, k96_5R, k96_5N, k96_12RR, k96_12RN, k96_12NR, k96_12NN, k96_19R, k96_25, k96_28N, k96_28RR, k96_28RN, k96_33, k96_35RR, k96_35RN, k96_35NR, k96_35NN, k96_47, k96_50, a1, a2, sT_1, sT_2, sT_3, sT_16, sT_17, sT_18, sT_19, sT_20, sT_21, sT_22, sT_23, sT_24, sT_25, sT_26, sT_27, sT_28, sT_29, sT_30, sT_31, sT_32, sT_33, sT_34, sT_35, sT_36, sT_37, sT_38, sT_39, sT_40, sT_41, sT_42, sT_43, sT_44, sT_45, sT_46, sT_47, sT_48, sT_49, sT_50, sT_51, sT_52, sT_53, sT_54, sT_55, sT_56, sT_57, sT_58, sT_59, sT_60, sT_61, sT_62, sT_63, sT_64, sT_65, sT_66, sT_67, sT_68, sT_69, sT_70, sT_71, sT_72, sT_73, sT_74, sT_75, sT_76, sT_77, sT_78, sT_79, sT_80, sN_1, sN_2, sN_19, sN_21, sN_23, sN_24, sN_26, sN_29, sN_31, sN_33, sN_35, sN_36, sN_37, sN_39, sN_40, sN_42, sN_44, sN_45, sN_46, sN_48, sN_49, sN_50, sN_51, sN_52, sN_53, sN_54, sN_55, sN_56, sN_57, sN_58, sN_59, sN_60, sN_61, sN_62, sN_63, sN_64, sN_65, sN_66, sN_67, sN_68, sN_69, sN_70, sN_71, sN_72, sN_73, sN_74, sN_75, sN_76, sN_77, sN_78, sN_79, sN_80, sR_0_34, sR_0_38, sR_1_34, sR_1_38, sR_64_20, sR_64_22, sR_128_25, sR_128_28, sR_194_17, sR_195_17, sR_196_17, sR_197_17, sR_258_30, sR_258_32, sR_258_41, sR_384_43, sR_448_18, sR_512_27, sR_513_27, sR_514_27, sR_515_27, sR_516_27, sR_576_16, sR_577_16, sR_578_16, sR_579_16, sR_580_16, sR_581_16, sR_582_16, sR_583_16, sR_584_16, sR_641_47, sR_643_47, sR_645_47, sR_646_47, sR_647_47, sR_648_47, sR_649_47, sR_650_47, sR_651_47, sR_652_47, sR_653_47, sR_654_47, sR_655_47, sR_656_47, sR_657_47, sR_658_47, sR_659_47, sR_661_47, sR_662_47, sR_663_47, sR_664_47, sR_665_47, sR_669_47, sR_670_47, sR_671_47, sR_672_47, sR_673_47, sR_674_47, sR_676_47, sR_677_47, sR_679_47, sR_680_47, sR_681_47, SH_I, SH_A, SH_G, SH_C, hS, Option.getD_some, ne_eq, reduceCtorEq, not_false_eq_true, not_true_eq_false, Option.bind_some, Option.toList_none, Option.toList_some, List.nil_append, List.cons_append, List.append_nil, ↓reduceIte, and_self, true_and, and_true, false_and, and_false, or_true, true_or, or_false, false_or, Nat.reduceEqDiff, Nat.reduceAdd, Int32.reduceMul, Int32.reduceAdd, Int32.reduceSub, Int32.reduceToNatClampNeg, Int32.reduceOfNat, Int32.reduceLT, Int32.reduceLE, va_rf]
      · have t := (hC.ps p hp).1.1
        simp (decide := true) only [k96_0, k96_5R, k96_5N, k96_12RR, k96_12RN, k96_12NR, k96_12NN, k96_19R, k96_25, k96_28N, k96_28RR, k96_28RN, k96_33, k96_35RR, k96_35RN, k96_35NR, k96_35NN, k96_47, k96_50, a1, a2, a3, t, sT_1, sT_2, sT_3, sT_16, sT_17, sT_18, sT_19, sT_20, sT_21, sT_22, sT_23, sT_24, sT_25, sT_26, sT_27, sT_28, sT_29, sT_30, sT_31, sT_32, sT_33, sT_34, sT_35, sT_36, sT_37, sT_38, sT_39, sT_40, sT_41, sT_42, sT_43, sT_44, sT_45, sT_46, sT_47, sT_48, sT_49, sT_50, sT_51, sT_52, sT_53, sT_54, sT_55, sT_56, sT_57, sT_58, sT_59, sT_60, sT_61, sT_62, sT_63, sT_64, sT_65, sT_66, sT_67, sT_68, sT_69, sT_70, sT_71, sT_72, sT_73, sT_74, sT_75, sT_76, sT_77, sT_78, sT_79, sT_80, sN_1, sN_2, sN_19, sN_21, sN_23, sN_24, sN_26, sN_29, sN_31, sN_33, sN_35, sN_36, sN_37, sN_39, sN_40, sN_42, sN_44, sN_45, sN_46, sN_48, sN_49, sN_50, sN_51, sN_52, sN_53, sN_54, sN_55, sN_56, sN_57, sN_58, sN_59, sN_60, sN_61, sN_62, sN_63, sN_64, sN_65, sN_66, sN_67, sN_68, sN_69, sN_70, sN_71, sN_72, sN_73, sN_74, sN_75, sN_76, sN_77, sN_78, sN_79, sN_80, sR_0_34, sR_0_38, sR_1_34, sR_1_38, sR_64_20, sR_64_22, sR_128_25, sR_128_28, sR_194_17, sR_195_17, sR_196_17, sR_197_17, sR_258_30, sR_258_32, sR_258_41, sR_384_43, sR_448_18, sR_512_27, sR_513_27, sR_514_27, sR_515_27, sR_516_27, sR_576_16, sR_577_16, sR_578_16, sR_579_16, sR_580_16, sR_581_16, sR_582_16, sR_583_16, sR_584_16, sR_641_47, sR_643_47, sR_645_47, sR_646_47, sR_647_47, sR_648_47, sR_649_47, sR_650_47, sR_651_47, sR_652_47, sR_653_47, sR_654_47, sR_655_47, sR_656_47, sR_657_47, sR_658_47, sR_659_47, sR_661_47, sR_662_47, sR_663_47, sR_664_47, sR_665_47, sR_669_47, sR_670_47, sR_671_47, sR_672_47, sR_673_47, sR_674_47, sR_676_47, sR_677_47, sR_679_47, sR_680_47, sR_681_47, SH_I, SH_A, SH_G, SH_C, hS, Option.getD_some, ne_eq, reduceCtorEq, not_false_eq_true, not_true_eq_false, Option.bind_some, Option.toList_none, Option.toList_some, List.nil_append, List.cons_append, List.append_nil, ↓reduceIte, and_self, true_and, and_true, false_and, and_false, or_true, true_or, or_false, false_or, Nat.reduceEqDiff, Nat.reduceAdd, Int32.reduceMul, Int32.reduceAdd, Int32.reduceSub, Int32.reduceToNatClampNeg, Int32.reduceOfNat, Int32.reduceLT, Int32.reduceLE, va_rf]
      · have t := (hC.ps p hp).1.1
        simp (decide := true) only [k96_0, k96_5R, k96_5N, k96_12RR, k96_12RN, k96_12NR, k96_12NN, k96_19R, k96_25, k96_28N, k96_28RR, k96_28RN, k96_33, k96_35RR, k96_35RN, k96_35NR, k96_35NN, k96_47, k96_50, a1, a2, a3, t, sT_1, sT_2, sT_3, sT_16, sT_17, sT_18, sT_19, sT_20, sT_21, sT_22, sT_23, sT_24, sT_25, sT_26, sT_27, sT_28, sT_29, sT_30, sT_31, sT_32, sT_33, sT_34, sT_35, sT_36, sT_37, sT_38, sT_39, sT_40, sT_41, sT_42, sT_43, sT_44, sT_45, sT_46, sT_47, sT_48, sT_49, sT_50, sT_51, sT_52, sT_53, sT_54, sT_55, sT_56, sT_57, sT_58, sT_59, sT_60, sT_61, sT_62, sT_63, sT_64, sT_65, sT_66, sT_67, sT_68, sT_69, sT_70, sT_71, sT_72, sT_73, sT_74, sT_75, sT_76, sT_77, sT_78, sT_79, sT_80, sN_1, sN_2, sN_19, sN_21, sN_23, sN_24, sN_26, sN_29, sN_31, sN_33, sN_35, sN_36, sN_37, sN_39, sN_40, sN_42, sN_44, sN_45, sN_46, sN_48, sN_49, sN_50, sN_51, sN_52, sN_53, sN_54, sN_55, sN_56, sN_57, sN_58, sN_59, sN_60, sN_61, sN_62, sN_63, sN_64, sN_65, sN_66, sN_67, sN_68, sN_69, sN_70, sN_71, sN_72, sN_73, sN_74, sN_75, sN_76, sN_77, sN_78, sN_79, sN_80, sR_0_34, sR_0_38, sR_1_34, sR_1_38, sR_64_20, sR_64_22, sR_128_25, sR_128_28, sR_194_17, sR_195_17, sR_196_17, sR_197_17, sR_258_30, sR_258_32, sR_258_41, sR_384_43, sR_448_18, sR_512_27, sR_513_27, sR_514_27, sR_515_27, sR_516_27, sR_576_16, sR_577_16, sR_578_16, sR_579_16, sR_580_16, sR_581_16, sR_582_16, sR_583_16, sR_584_16, sR_641_47, sR_643_47, sR_645_47, sR_646_47, sR_647_47, sR_648_47, sR_649_47, sR_650_47, sR_651_47, sR_652_47, sR_653_47, sR_654_47, sR_655_47, sR_656_47, sR_657_47, sR_658_47, sR_659_47, sR_661_47, sR_662_47, sR_663_47, sR_664_47, sR_665_47, sR_669_47, sR_670_47, sR_671_47, sR_672_47, sR_673_47, sR_674_47, sR_676_47, sR_677_47, sR_679_47, sR_680_47, sR_681_47, SH_I, SH_A, SH_G, SH_C, hS, Option.getD_some, ne_eq, reduceCtorEq, not_false_eq_true, not_true_eq_false, Option.bind_some, Option.toList_none, Option.toList_some, List.nil_append, List.cons_append, List.append_nil, ↓reduceIte, and_self, true_and, and_true, false_and, and_false, or_true, true_or, or_false, false_or, Nat.reduceEqDiff, Nat.reduceAdd, Int32.reduceMul, Int32.reduceAdd, Int32.reduceSub, Int32.reduceToNatClampNeg, Int32.reduceOfNat, Int32.reduceLT, Int32.reduceLE, va_rf]
      · have t := (hC.ps p hp).1.1
        simp (decide := true) only [k96_0, k96_5R, k96_5N, k96_12RR, k96_12RN, k96_12NR, k96_12NN, k96_19R, k96_25, k96_28N, k96_28RR, k96_28RN, k96_33, k96_35RR, k96_35RN, k96_35NR, k96_35NN, k96_47, k96_50, a1, a2, a3, t, sT_1, sT_2, sT_3, sT_16, sT_17, sT_18, sT_19, sT_20, sT_21, sT_22, sT_23, sT_24, sT_25, sT_26, sT_27, sT_28, sT_29, sT_30, sT_31, sT_32, sT_33, sT_34, sT_35, sT_36, sT_37, sT_38, sT_39, sT_40, sT_41, sT_42, sT_43, sT_44, sT_45, sT_46, sT_47, sT_48, sT_49, sT_50, sT_51, sT_52, sT_53, sT_54, sT_55, sT_56, sT_57, sT_58, sT_59, sT_60, sT_61, sT_62, sT_63, sT_64, sT_65, sT_66, sT_67, sT_68, sT_69, sT_70, sT_71, sT_72, sT_73, sT_74, sT_75, sT_76, sT_77, sT_78, sT_79, sT_80, sN_1, sN_2, sN_19, sN_21, sN_23, sN_24, sN_26, sN_29, sN_31, sN_33, sN_35, sN_36, sN_37, sN_39, sN_40, sN_42, sN_44, sN_45, sN_46, sN_48, sN_49, sN_50, sN_51, sN_52, sN_53, sN_54, sN_55, sN_56, sN_57, sN_58, sN_59, sN_60, sN_61, sN_62, sN_63, sN_64, sN_65, sN_66, sN_67, sN_68, sN_69, sN_70, sN_71, sN_72, sN_73, sN_74, sN_75, sN_76, sN_77, sN_78, sN_79, sN_80, sR_0_34, sR_0_38, sR_1_34, sR_1_38, sR_64_20, sR_64_22, sR_128_25, sR_128_28, sR_194_17, sR_195_17, sR_196_17, sR_197_17, sR_258_30, sR_258_32, sR_258_41, sR_384_43, sR_448_18, sR_512_27, sR_513_27, sR_514_27, sR_515_27, sR_516_27, sR_576_16, sR_577_16, sR_578_16, sR_579_16, sR_580_16, sR_581_16, sR_582_16, sR_583_16, sR_584_16, sR_641_47, sR_643_47, sR_645_47, sR_646_47, sR_647_47, sR_648_47, sR_649_47, sR_650_47, sR_651_47, sR_652_47, sR_653_47, sR_654_47, sR_655_47, sR_656_47, sR_657_47, sR_658_47, sR_659_47, sR_661_47, sR_662_47, sR_663_47, sR_664_47, sR_665_47, sR_669_47, sR_670_47, sR_671_47, sR_672_47, sR_673_47, sR_674_47, sR_676_47, sR_677_47, sR_679_47, sR_680_47, sR_681_47, SH_I, SH_A, SH_G, SH_C, hS, Option.getD_some, ne_eq, reduceCtorEq, not_false_eq_true, not_true_eq_false, Option.bind_some, Option.toList_none, Option.toList_some, List.nil_append, List.cons_append, List.append_nil, ↓reduceIte, and_self, true_and, and_true, false_and, and_false, or_true, true_or, or_false, false_or, Nat.reduceEqDiff, Nat.reduceAdd, Int32.reduceMul, Int32.reduceAdd, Int32.reduceSub, Int32.reduceToNatClampNeg, Int32.reduceOfNat, Int32.reduceLT, Int32.reduceLE, va_rf]
    · rw [k180_0 (sT_47 hS), b1]
      simp only [Option.bind_some, Option.toList_some, List.cons_append, List.nil_append]
      rw [k180_7, if_neg (fun q => q rfl), k180_10]
end WI5
end S_99
section S_9a
/-! windows: all that a rule names is settled; meant -/
theorem tkR_set {b b' : BN} {w v : Nat} (h : tkR b w v = some b') : b' w = some v ∧ ∀ i u, b i = some u → b' i = some u := by
  unfold tkR at h
  cases hw : b w with
  | some u =>
    rw [hw] at h
    have h : (if u = v then some b else none) = some b' := h
    split at h
    · rename_i e
      cases h
      exact ⟨by rw [hw, e], fun i u h => h⟩
    · cases h
  | none =>
    rw [hw] at h
    have h : (if hasV b v = true then none else some (upB b w v)) = some b' := h
    split at h
    · cases h
    · cases h
      refine ⟨if_pos rfl, fun i u hi => ?_⟩
      show (if i = w then some v else b i) = some u
      by_cases e : i = w
      · rw [e, hw] at hi; cases hi
      · rw [if_neg e]; exact hi
theorem tkM_set {b b' : BN} {w v : Nat} (h : tkM b w v = some b') : b' w = some v ∧ ∀ i u, b i = some u → b' i = some u := by
  unfold tkM at h
  cases hw : b w with
  | some u =>
    rw [hw] at h
    have h : (if u = v then some b else none) = some b' := h
    split at h
    · rename_i e
      cases h
      exact ⟨by rw [hw, e], fun i u h => h⟩
    · cases h
  | none =>
    rw [hw] at h
    cases h
    refine ⟨if_pos rfl, fun i u hi => ?_⟩
    show (if i = w then some v else b i) = some u
    by_cases e : i = w
    · rw [e, hw] at hi; cases hi
    · rw [if_neg e]; exact hi
theorem tkL_set {b : BN} {o p : Nat → Int32} : ∀ n b', tkL b o p n = some b' → (∀ i u, b i = some u → b' i = some u) ∧ ∀ j, j < n → ∃ u, b' (o (j + 1)).toNatClampNeg = some u := by
  intro n
  induction n with
  | zero => intro b' h; cases h; exact ⟨fun i u h => h, fun j hj => absurd hj (Nat.not_lt_zero j)⟩
  | succ n ih =>
    intro b' h
    obtain ⟨c, h1, h2⟩ := Option.bind_eq_some_iff.mp h
    obtain ⟨i1, i2⟩ := ih c h1
    obtain ⟨s1, s2⟩ := tkR_set h2
    refine ⟨fun i u hi => s2 i u (i1 i u hi), fun j hj => ?_⟩
    by_cases e : j = n
    · subst e; exact ⟨_, s1⟩
    · obtain ⟨u, hu⟩ := i2 j (by omega)
      exact ⟨u, s2 _ u hu⟩
theorem tkO_set {W : Nat} {x x' : BN × BN} {o p : Nat → Int32} (h : tkO W x o p = some x') : (∀ i u, x.1 i = some u → x'.1 i = some u) ∧ (∀ i u, x.2 i = some u → x'.2 i = some u) ∧ (∀ j, j < regN (opO o) → ∃ u, x'.1 (o (j + 1)).toNatClampNeg = some u) ∧ (numN (opO o) = true → ∀ m, m < 3 → o 2 = 16 + nI m → ∃ u, x'.2 m = some u) := by
  unfold tkO at h
  split at h
  · obtain ⟨b', h1, h2⟩ := Option.bind_eq_some_iff.mp h
    obtain ⟨l1, l2⟩ := tkL_set _ _ h1
    split at h2
    · rename_i hn
      obtain ⟨c', h3, h4⟩ := Option.map_eq_some_iff.mp h2
      subst h4
      unfold tkN at h3
      split at h3
      · rename_i h16
        obtain ⟨s1, s2⟩ := tkM_set h3
        refine ⟨l1, s2, l2, fun _ m hm e => ?_⟩
        rw [e, (i16n hm).2.2, nI_clamp (by omega)] at s1
        exact ⟨_, s1⟩
      · rename_i h16
        split at h3
        · cases h3
          exact ⟨l1, fun i u h => h, l2, fun _ m hm e => absurd (by rw [e]; exact (i16n hm).1) h16⟩
        · cases h3
    · rename_i hn
      cases h2
      exact ⟨l1, fun i u h => h, l2, fun q => absurd q hn⟩
  · cases h
theorem tkW_set {W pl : Nat} {os ps : List (Nat → Int32)} : ∀ n x, tkW W os ps pl n = some x → ∀ i, i < n → (∀ j, j < regN (opO (os.getD i (fun _ => 0))) → ∃ u, x.1 ((os.getD i (fun _ => 0)) (j + 1)).toNatClampNeg = some u) ∧ (numN (opO (os.getD i (fun _ => 0))) = true → ∀ m, m < 3 → (os.getD i (fun _ => 0)) 2 = 16 + nI m → ∃ u, x.2 m = some u) := by
  intro n
  induction n with
  | zero => intro x h i hi; exact absurd hi (Nat.not_lt_zero i)
  | succ n ih =>
    intro x h i hi
    obtain ⟨c, h1, h2⟩ := Option.bind_eq_some_iff.mp h
    obtain ⟨s1, s2, s3, s4⟩ := tkO_set h2
    by_cases e : i = n
    · subst e; exact ⟨s3, s4⟩
    · obtain ⟨i1, i2⟩ := ih c h1 i (by omega)
      refine ⟨fun j hj => ?_, fun hn m hm e => ?_⟩
      · obtain ⟨u, hu⟩ := i1 j hj
        exact ⟨u, s1 _ u hu⟩
      · obtain ⟨u, hu⟩ := i2 hn m hm e
        exact ⟨u, s2 _ u hu⟩
theorem mem_idx {os : List (Nat → Int32)} {o : Nat → Int32} (h : o ∈ os) : ∃ i, i < os.length ∧ os.getD i (fun _ => 0) = o := by
  obtain ⟨i, hi, e⟩ := List.mem_iff_getElem.mp h
  exact ⟨i, hi, by rw [List.getD_eq_getElem?_getD, List.getElem?_eq_getElem hi, ← e]; rfl⟩
theorem win_full {W m pl : Nat} {a : AR} (hf : WFr a) {ps : List (Nat → Int32)} {x : BN × BN} (h : winF W a.o1 m ps pl = some x) : (∀ k, k < a.nr → ∃ u, x.1 k = some u) ∧ (∀ k, k < a.nm → ∃ u, x.2 k = some u) := by
  unfold winF at h
  split at h
  · have nr4 := hf.nr4
    have nm3 := hf.nm3
    refine ⟨fun k hk => ?_, fun k hk => ?_⟩
    · obtain ⟨o, ho, j, hj, e⟩ := hf.oc.1 k hk
      obtain ⟨i, hi, ei⟩ := mem_idx ho
      obtain ⟨q, _⟩ := tkW_set _ _ h i hi
      rw [ei] at q
      obtain ⟨u, hu⟩ := q j hj
      rw [e, nI_clamp (by omega)] at hu
      exact ⟨u, hu⟩
    · obtain ⟨o, ho, hn, e⟩ := hf.oc.2 k hk
      obtain ⟨i, hi, ei⟩ := mem_idx ho
      obtain ⟨_, q⟩ := tkW_set _ _ h i hi
      rw [ei] at q
      exact q hn k (by omega) e
  · cases h
section WI6
variable {d : Nat} {σ : jS} {s : AS} {cr cp : Nat} {qr qp : Nat → Nat}
theorem cin01 {x : Int32} : jx d 123 0 [some (.long x.toInt64), none, some (.long 0), none, some (.long 1), none] [] σ = some (some (.int (if 0 ≤ x ∧ x ≤ 1 then 1 else 0)), σ) := c123 (b := 0) (c := 1)
theorem sim_meant (hR : REL s cr cp qr qp σ) (x y z so k : Int32) : SimR (d + 5) 102 184 [some (.int x), some (.int y), some (.int z), some (.int so), some (.int k), none, none, none] [some (.int x), some (.int y), some (.int z), some (.int so), some (.int k)] true σ := by
  have hR0 := hR
  obtain ⟨hS, hx, hs, hC, hM⟩ := hR
  have r8 : ∀ {υ : jS}, SH υ → (jR υ 580 16).getD 0 = 38 := fun h => by rw [sR_580_16 h]; rfl
  have n8 : ∀ {υ : jS}, SH υ → jR υ 580 16 ≠ none := fun h => by rw [sR_580_16 h]; exact fun z => nomatch z
  have R : ∀ {υ : jS} {g a : Nat}, jR υ g 47 = some a → (jR υ g 47).getD 0 = a ∧ jR υ g 47 ≠ none := fun h => by rw [h]; exact ⟨rfl, fun z => nomatch z⟩
  obtain ⟨P1, P2⟩ := cls_pl (d := d + 2) hS hs hC x y z
  by_cases h : PLc s x y z
  · obtain ⟨p, i, r, hp, hi, hr, ep, ei, er, a1, a2, a3⟩ := P1 h
    have l24 := (hs.fp _ (mem_ps hp)).1
    have hr24 := hs.r24
    have b1 : ∀ {υ : jS}, SH υ → CM s υ → jx (d + 4) 181 0 [some (.ref 47), some (.int x), some (.int y), some (.int z)] [] υ = some (some (.int 1), υ) := fun h1 h2 => c181y (d := d + 2) h1 hs h2 h
    have to28 : jx (d + 5) 102 0 [some (.ref 16), some (.int x), some (.int y), some (.int z), some (.int so), some (.int k), none, none, none] [] σ = jx (d + 5) 102 28 [some (.ref 16), some (.int x), some (.int y), some (.int z), some (.int so), some (.int k), some (.ref (qp p)), some (.ref (qr r)), none] [] σ := by
      rw [k102_0 (sT_16 hS), a1]
      simp only [Option.bind_some, Option.toList_some, List.cons_append, List.nil_append]
      rw [k102_5R (sT_16 hS), a2]
      simp only [Option.bind_some, Option.toList_some, List.cons_append, List.nil_append]
      rw [k102_12RR (hC.ps p hp).1.1, a3]
      simp only [Option.bind_some, Option.toList_some, List.cons_append, List.nil_append]
      rw [k102_25, if_neg (by decide)]
    have to18 : ∀ {υ : jS}, SH υ → CM s υ → jx (d + 5) 184 0 [some (.ref 47), some (.int x), some (.int y), some (.int z), some (.int so), some (.int k)] [] υ = (some (some (.int (if 0 ≤ so ∧ so ≤ 1 then 1 else 0)), υ) : jr).bind (fun z' => jx (d + 5) 184 18 [some (.ref 47), some (.int x), some (.int y), some (.int z), some (.int so), some (.int k)] (z'.1.toList ++ []) z'.2) := fun h1 h2 => by
      rw [k184_0 (sT_47 h1), b1 h1 h2]
      simp only [Option.bind_some, Option.toList_some, List.cons_append, List.nil_append]
      rw [k184_7, if_neg (by decide), k184_10, cin01]
      simp only [Option.bind_some, Option.toList_some, List.cons_append, List.nil_append]
    by_cases hso : 0 ≤ so ∧ so ≤ 1
    · have s0 : ¬ so < 0 := Int32.not_lt.mpr hso.1
      have es : so = 0 ∨ so = 1 := by
        have q := i32_nat (c := so) (n := 2) (by decide) s0 (by rw [Int32.not_le]; exact Int32.lt_of_le_of_lt hso.2 (by decide))
        have : so.toNatClampNeg = 0 ∨ so.toNatClampNeg = 1 := by omega
        rcases this with e | e
        · rw [e] at q; exact Or.inl q.1
        · rw [e] at q; exact Or.inr q.1
      obtain ⟨a, ea⟩ : ∃ a, s.rs.getD r ar0 = a := ⟨_, rfl⟩
      have cr' := hC.rs r hr
      have fr := hs.fr _ (mem_rs hr)
      rw [ea] at cr' fr
      have nr4 := fr.nr4
      have nm3 := fr.nm3
      obtain ⟨⟨tp, hU, hbig, g1, g2, e4, e5, e6, e0, htp⟩, -⟩ := cr'
      obtain ⟨N, eN⟩ : ∃ N, (if so = 0 then a.nr else a.nm) = N := ⟨_, rfl⟩
      have N4 : N ≤ 4 := by rw [← eN]; split <;> omega
      have to71 : jx (d + 5) 102 0 [some (.ref 16), some (.int x), some (.int y), some (.int z), some (.int so), some (.int k), none, none, none] [] σ = if k < 0 then jx (d + 5) 102 93 [some (.ref 16), some (.int x), some (.int y), some (.int z), some (.int so), some (.int k), some (.ref (qp p)), some (.ref (qr r)), some (.int (nI N))] [] σ else jx (d + 5) 102 71 [some (.ref 16), some (.int x), some (.int y), some (.int z), some (.int so), some (.int k), some (.ref (qp p)), some (.ref (qr r)), some (.int (nI N))] [] σ := by
        rw [to28, k102_28R, if_neg s0, k102_38, if_pos hso.2, k102_46]
        rcases es with e | e
        · rw [if_neg (fun q => q e), k102_51R hU.1, e4, ← eN, if_pos e]
        · have n0 : ¬ so = 0 := by rw [e]; decide
          rw [if_pos n0, k102_59R hU.1, e5, ← eN, if_neg n0]
      have eiS : (if 0 ≤ so ∧ so ≤ 1 then (1 : Int32) else 0) = 1 := if_pos hso
      have to30 : ∀ {υ υ' : jS} {v : Int32}, SH υ → CM s υ → jx (d + 4) 182 0 [some (.ref 47), some (.int x), some (.int y), some (.int z), none, none, none, none, none, none, none, none] [] υ = some (some (.int v), υ') → jx (d + 5) 184 0 [some (.ref 47), some (.int x), some (.int y), some (.int z), some (.int so), some (.int k)] [] υ = if v = 0 then jx (d + 5) 184 66 [some (.ref 47), some (.int x), some (.int y), some (.int z), some (.int so), some (.int k)] [] υ' else jx (d + 5) 184 33 [some (.ref 47), some (.int x), some (.int y), some (.int z), some (.int so), some (.int k)] [] υ' := fun h1 h2 h3 => by
        rw [to18 h1 h2, eiS]
        simp only [Option.bind_some, Option.toList_some, List.cons_append, List.nil_append]
        rw [k184_18, if_pos (by decide), k184_23 (sT_47 h1), h3]
        simp only [Option.bind_some, Option.toList_some, List.cons_append, List.nil_append]
        rw [k184_30]
      -- the range of k in the reference
      have to63 : ∀ {υ : jS}, SH υ → CM s υ → jx (d + 5) 184 33 [some (.ref 47), some (.int x), some (.int y), some (.int z), some (.int so), some (.int k)] [] υ = if (¬ k < 0 ∧ k < nI N) then jx (d + 5) 184 69 [some (.ref 47), some (.int x), some (.int y), some (.int z), some (.int so), some (.int k)] [] υ else some (some (.int (-4)), υ) := fun {υ} h1 h2 => by
        obtain ⟨⟨rg, m1, m2, m3, m4, m5, m6, m7, m8, m9, m10⟩, -⟩ := h2.rs r hr
        rw [ea] at m5 m6
        have t1 := R (sR_651_47 h1)
        have t2 := R (sR_652_47 h1)
        rw [k184_33]
        have fin : ∀ L, L = [some (.ref 47), some (.int x), some (.int y), some (.int z), some (.int so), some (.int k)] → (some (some (.int (if 0 ≤ k ∧ k ≤ nI N - 1 then 1 else 0)), υ) : jr).bind (fun z' => jx (d + 5) 184 63 L (z'.1.toList ++ []) z'.2) = if (¬ k < 0 ∧ k < nI N) then jx (d + 5) 184 69 [some (.ref 47), some (.int x), some (.int y), some (.int z), some (.int so), some (.int k)] [] υ else some (some (.int (-4)), υ) := fun L eL => by
          subst eL
          by_cases q : ¬ k < 0 ∧ k < nI N
          · rw [if_pos ((rng_iff (by omega)).mpr q), if_pos q]
            simp only [Option.bind_some, Option.toList_some, List.cons_append, List.nil_append]
            rw [k184_63, if_pos (by decide)]
          · rw [if_neg (fun w => q ((rng_iff (by omega)).mp w)), if_neg q]
            simp only [Option.bind_some, Option.toList_some, List.cons_append, List.nil_append]
            rw [k184_63, if_neg (fun w => w rfl), k184_66]
        rcases es with e | e
        · rw [if_neg (fun q => q e), er, k184_42 (sT_47 h1) t1.2 (by rw [t1.1]; exact Or.inl (sT_56 h1)) (by rw [t1.1, sN_56 h1]; exact jin_n (by omega) (by decide)), t1.1, nI_clamp (by omega), m5, show a.nr = N by rw [← eN, if_pos e], cin0, ← er]
          exact fin _ rfl
        · have n0 : ¬ so = 0 := by rw [e]; decide
          rw [if_pos n0, er, k184_51 (sT_47 h1) t2.2 (by rw [t2.1]; exact Or.inl (sT_57 h1)) (by rw [t2.1, sN_57 h1]; exact jin_n (by omega) (by decide)), t2.1, nI_clamp (by omega), m6, show a.nm = N by rw [← eN, if_neg n0], cin0, ← er]
          exact fin _ rfl
      by_cases hk0 : ¬ k < 0 ∧ k < nI N
      · have hk : inR k N := hk0
        obtain ⟨kk, hkk, ek⟩ := inR_nat (by omega) hk
        obtain ⟨σ1, e1, F1, w1⟩ := c97 (d := d) hS hs hC hp hr (pl := i) (by omega)
        have hS1 := F1.sh hS
        have hC1 : CX s cr cp qr qp σ1 := hC.scr F1 (by decide)
        have hM1 := hM.sm (F1.sm (fun a h1 h2 => by simp; omega))
        obtain ⟨σ2, e2, F2, w2⟩ := c182 (d := d + 2) hS1 hs hM1 hp hr (pl := i) (by omega)
        have hS2 := F2.sh hS1
        have hM2 := hM1.w7 hs F2
        have sc2 := F2.sc (fun a ha => by simp at ha; omega)
        have nx1 : jnx σ1 = jnx σ := F1.1.2.2.2.2.1
        have nx2 : jnx σ2 = jnx σ1 := F2.1.2.2.2.2.1
        have sl1 : jsl σ1 = jsl σ := F1.1.2.2.2.2.2
        have sl2 : jsl σ2 = jsl σ1 := F2.1.2.2.2.2.2
        have fin : ∀ v : Int32, jx (d + 5) 102 0 [some (.ref 16), some (.int x), some (.int y), some (.int z), some (.int so), some (.int k), none, none, none] [] σ = some (some (.int v), σ1) → jx (d + 5) 184 0 [some (.ref 47), some (.int x), some (.int y), some (.int z), some (.int so), some (.int k)] [] σ1 = some (some (.int v), σ2) → SimR (d + 5) 102 184 [some (.int x), some (.int y), some (.int z), some (.int so), some (.int k), none, none, none] [some (.int x), some (.int y), some (.int z), some (.int so), some (.int k)] true σ := fun v h1 h2 => ⟨v, v, σ1, σ2, s, cr, cp, qr, qp, h1, h2, ⟨hS2, by omega, hs, CX.sc (by omega) hC1 sc2, hM2⟩, by omega, by omega, (F1.low (by simp)).trans (sc2.low (by omega)), fun _ => rfl⟩
        rw [← ei, ← ep, ← er] at e2
        rw [← ei] at e1
        have to90 : ∀ v : Int32, (if (winF s.W (s.rs.getD r ar0).o1 (s.rs.getD r ar0).o2.length (s.ps.getD p []) i).isSome = true then (1 : Int32) else 0) = v → jx (d + 5) 102 0 [some (.ref 16), some (.int x), some (.int y), some (.int z), some (.int so), some (.int k), none, none, none] [] σ = if ¬ (v = 0) then jx (d + 5) 102 96 [some (.ref 16), some (.int x), some (.int y), some (.int z), some (.int so), some (.int k), some (.ref (qp p)), some (.ref (qr r)), some (.int (nI N))] [] σ1 else jx (d + 5) 102 93 [some (.ref 16), some (.int x), some (.int y), some (.int z), some (.int so), some (.int k), some (.ref (qp p)), some (.ref (qr r)), some (.int (nI N))] [] σ1 := fun v ev => by
          rw [to71, if_neg hk.1, k102_71, if_neg (by rw [Int32.not_le]; exact hk.2), k102_78RR (sT_16 hS) (n8 hS) (by rw [r8 hS]; exact sT_38 hS), r8 hS, e1, ev]
          simp only [Option.bind_some, Option.toList_some, List.cons_append, List.nil_append]
          rw [k102_90]
        cases hw : winF s.W (s.rs.getD r ar0).o1 (s.rs.getD r ar0).o2.length (s.ps.getD p []) i with
        | none =>
          rw [hw] at e2 to90
          refine fin (-4) ?_ ?_
          · rw [to90 0 rfl, if_neg (fun q => q rfl), k102_93]
          · rw [to30 hS1 hM1 e2, if_pos (by decide), k184_66]
        | some xx =>
          obtain ⟨rb1, ib, ic⟩ := w1 xx hw
          obtain ⟨rb2, _, _⟩ := w2 xx hw
          have full := win_full (a := a) fr (by rw [← ea]; exact hw)
          rw [hw] at e2 to90
          have e2 : jx (d + 4) 182 0 [some (.ref 47), some (.int x), some (.int y), some (.int z), none, none, none, none, none, none, none, none] [] σ1 = some (some (.int 1), σ2) := e2
          rcases es with e | e
          · have eN' : N = a.nr := by rw [← eN, if_pos e]
            obtain ⟨u, hu⟩ := full.1 kk (by omega)
            have v1 : jA σ1 39 kk = nI u := by rw [rb1.1 kk (by omega)]; unfold encB; rw [hu]
            have v2 : jA σ2 76 kk = nI u := by rw [rb2.1 kk (by omega)]; unfold encB; rw [hu]
            have rv : rgV (jA σ1 39) (nI kk) = nI u := by
              unfold rgV
              rw [if_neg (fun q => by
                rcases q with q | q
                · exact nn0 (by omega) q
                · exact nI_ge (b := 4) (by omega) (by omega) q), nI_clamp (by omega), v1]
            refine fin (nI u) ?_ ?_
            · rw [to90 1 rfl, if_pos (by decide), k102_96, if_neg (fun q => q e), k102_101 (sT_16 hS1) (n8 hS1) (by rw [r8 hS1]; exact sT_38 hS1), r8 hS1, c64 (BD38 hS1), ek, rv]
              simp only [Option.bind_some, Option.toList_some, List.cons_append, List.nil_append]
              rw [k102_110]
            · have t := R (sR_676_47 hS2)
              rw [to30 hS1 hM1 e2, if_neg (by decide), to63 hS2 hM2, if_pos hk0, k184_69, if_neg (fun q => q e), ek, k184_74 (sT_47 hS2) t.2 (by rw [t.1]; exact Or.inl (sT_76 hS2)) (by rw [t.1, sN_76 hS2]; exact jin_n (by omega) (by decide)), t.1, nI_clamp (by omega), v2]
          · have n0 : ¬ so = 0 := by rw [e]; decide
            have eN' : N = a.nm := by rw [← eN, if_neg n0]
            obtain ⟨u, hu⟩ := full.2 kk (by omega)
            have v1 : jA σ1 40 kk = nI u := by rw [rb1.2 kk (by omega)]; unfold encB; rw [hu]
            have v2 : jA σ2 77 kk = nI u := by rw [rb2.2 kk (by omega)]; unfold encB; rw [hu]
            have rv : nmV (jA σ1 40) (nI kk) = nI u := by
              unfold nmV
              rw [if_neg (fun q => by
                rcases q with q | q
                · exact nn0 (by omega) q
                · exact nI_ge (b := 3) (by omega) (by omega) q), nI_clamp (by omega), v1]
            refine fin (nI u) ?_ ?_
            · rw [to90 1 rfl, if_pos (by decide), k102_96, if_pos n0, k102_113 (sT_16 hS1) (n8 hS1) (by rw [r8 hS1]; exact sT_38 hS1), r8 hS1, c66 (BD38 hS1), ek, rv]
              simp only [Option.bind_some, Option.toList_some, List.cons_append, List.nil_append]
              rw [k102_122]
            · have t := R (sR_677_47 hS2)
              rw [to30 hS1 hM1 e2, if_neg (by decide), to63 hS2 hM2, if_pos hk0, k184_69, if_pos n0, ek, k184_84 (sT_47 hS2) t.2 (by rw [t.1]; exact Or.inl (sT_77 hS2)) (by rw [t.1, sN_77 hS2]; exact jin_n (by omega) (by decide)), t.1, nI_clamp (by omega), v2]
      · have hk : ¬ inR k N := hk0
        obtain ⟨σ2, e2, F2, w2⟩ := c182 (d := d + 2) hS hs hM hp hr (pl := i) (by omega)
        have hS2 := F2.sh hS
        have hM2 := hM.w7 hs F2
        have sc2 := F2.sc (fun a ha => by simp at ha; omega)
        have nx2 : jnx σ2 = jnx σ := F2.1.2.2.2.2.1
        have sl2 : jsl σ2 = jsl σ := F2.1.2.2.2.2.2
        rw [← ei, ← ep, ← er] at e2
        refine ⟨-4, -4, σ, σ2, s, cr, cp, qr, qp, ?_, ?_, ⟨hS2, by omega, hs, CX.sc (by omega) hC sc2, hM2⟩, by omega, by omega, sc2.low (by omega), fun _ => rfl⟩
        · show jx (d + 5) 102 0 [some (.ref 16), some (.int x), some (.int y), some (.int z), some (.int so), some (.int k), none, none, none] [] σ = _
          rw [to71]
          by_cases k0 : k < 0
          · rw [if_pos k0, k102_93]
          · rw [if_neg k0, k102_71, if_pos (by rw [← Int32.not_lt]; exact fun w => hk ⟨k0, w⟩), k102_93]
        · show jx (d + 5) 184 0 [some (.ref 47), some (.int x), some (.int y), some (.int z), some (.int so), some (.int k)] [] σ = _
          rw [to30 hS hM e2]
          cases (winF s.W (s.rs.getD r ar0).o1 (s.rs.getD r ar0).o2.length (s.ps.getD p []) i).isSome
          · rw [if_pos (by decide), k184_66]
          · rw [if_neg (by decide), to63 hS2 hM2, if_neg hk0]
    · refine SimR.read hR0 (a := -1) (a' := -1) ?_ ?_ (fun _ => rfl)
      · show jx (d + 5) 102 0 [some (.ref 16), some (.int x), some (.int y), some (.int z), some (.int so), some (.int k), none, none, none] [] σ = _
        rw [to28, k102_28R]
        by_cases s0 : so < 0
        · rw [if_pos s0, k102_44]
        · rw [if_neg s0, k102_38, if_neg (fun w => hso ⟨Int32.not_lt.mp s0, w⟩), k102_44]
      · have e : (if 0 ≤ so ∧ so ≤ 1 then (1 : Int32) else 0) = 0 := if_neg hso
        show jx (d + 5) 184 0 [some (.ref 47), some (.int x), some (.int y), some (.int z), some (.int so), some (.int k)] [] σ = _
        rw [to18 hS hM, e]
        simp only [Option.bind_some, Option.toList_some, List.cons_append, List.nil_append]
        rw [k184_18, if_neg (fun q => q rfl), k184_21]
  · have b1 := c181n (d := d + 2) hS hs hM h
    refine SimR.read hR0 (a := -1) (a' := -1) ?_ ?_ (fun _ => rfl)
    · rcases P2 h with ⟨a1, ⟨r, a2⟩ | a2⟩ | ⟨p, hp, a1, ⟨⟨r, a2⟩, a3⟩ | ⟨a2, a3 | a3⟩⟩
      · simp (decide := true) only [k102_0, k102_5R, k102_5N, k102_12RR, k102_12RN, k102_12NR, k102_12NN, k102_19R, k102_25, k102_28R, k102_28N, k102_33, k102_38, k102_44, k102_46, k102_51R, k102_59R, k102_71, k102_78RR, k102_78RN, k102_78NR, k102_78NN, k102_90, k102_93, k102_96, k102_101, k102_110, k102_113, k102_122, a1, a2, sT_1, sT_2, sT_3, sT_16, sT_17, sT_18, sT_19, sT_20, sT_21, sT_22, sT_23, sT_24, sT_25, sT_26, sT_27, sT_28, sT_29, sT_30, sT_31, sT_32, sT_33, sT_34, sT_35, sT_36, sT_37, sT_38, sT_39, sT_40, sT_41, sT_42, sT_43, sT_44, sT_45, sT_46, sT_47, sT_48, sT_49, sT_50, sT_51, sT_52, sT_53, sT_54, sT_55, sT_56, sT_57, sT_58, sT_59, sT_60, sT_61, sT_62, sT_63, sT_64, sT_65, sT_66, sT_67, sT_68, sT_69, sT_70, sT_71, sT_72, sT_73, sT_74, sT_75, sT_76, sT_77, sT_78, sT_79, sT_80, sN_1, sN_2, sN_19, sN_21, sN_23, sN_24, sN_26, sN_29, sN_31, sN_33, sN_35, sN_36, sN_37, sN_39, sN_40, sN_42, sN_44, sN_45, sN_46, sN_48, sN_49, sN_50, sN_51, sN_52, sN_53, sN_54, sN_55, sN_56, sN_57, sN_58, sN_59, sN_60, sN_61, sN_62, sN_63, sN_64, sN_65, sN_66, sN_67, sN_68, sN_69, sN_70, sN_71, sN_72, sN_73, sN_74, sN_75, sN_76, sN_77, sN_78, sN_79, sN_80, sR_0_34, sR_0_38, sR_1_34, sR_1_38, sR_64_20, sR_64_22, sR_128_25, sR_128_28, sR_194_17, sR_195_17, sR_196_17, sR_197_17, sR_258_30, sR_258_32, sR_258_41, sR_384_43, sR_448_18, sR_512_27, sR_513_27, sR_514_27, sR_515_27, sR_516_27, sR_576_16, sR_577_16, sR_578_16, sR_579_16, sR_580_16, sR_581_16, sR_582_16, sR_583_16, sR_584_16, sR_641_47, sR_643_47, sR_645_47, sR_646_47, sR_647_47, sR_648_47, sR_649_47, sR_650_47, sR_651_47, sR_652_47, sR_653_47, sR_654_47, sR_655_47, sR_656_47, sR_657_47, sR_658_47, sR_659_47, sR_661_47, sR_662_47, sR_663_47, sR_664_47, sR_665_47, sR_669_47, sR_670_47, sR_671_47, sR_672_47, sR_673_47, sR_674_47, sR_676_47, sR_677_47, sR_679_47, sR_680_47, sR_681_47, SH_I, SH_A, SH_G, SH_C, hS, Option.getD_some, ne_eq, reduceCtorEq, not_false_eq_true, not_true_eq_false, Option.bind_some, Option.toList_none, Option.toList_some, List.nil_append, List.cons_append, List.append_nil, ↓reduceIte, and_self, true_and, and_true, false_and, and_false, or_true, true_or, or_false, false_or, Nat.reduceEqDiff, Nat.reduceAdd, Int32.reduceMul, Int32.reduceAdd, Int32.reduceSub, Int32.reduceToNatClampNeg, Int32.reduceOfNat, Int32.reduceLT, Int32.reduceLE, va_rf]
      · simp (decide := true) only [k102_0, k102_5R, k102_5N, k102_12RR, k102_12RN, k102_12NR, k102_12NN, k102_19R, k102_25, k102_28R, k102_28N, k102_33, k102_38, k102_44, k102_46, k102_51R, k102_59R, k102_71, k102_78RR, k102_78RN, k102_78NR, k102_78NN, k102_90, k102_93, k102_96, k102_101, k102_110, k102_113, k102_122, a1, a2, sT_1, sT_2, sT_3, sT_16, sT_17, sT_18, sT_19, sT_20, sT_21, sT_22, sT_23, sT_24, sT_25, sT_26, sT_27, sT_28, sT_29, sT_30, sT_31, sT_32, sT_33, sT_34, sT_35, sT_36, sT_37, sT_38, sT_39, sT_40, sT_41, sT_42, sT_43, sT_44, sT_45, sT_46, sT_47, sT_48, sT_49, sT_50, sT_51, sT_52, sT_53, sT_54, sT_55, sT_56, sT_57, sT_58, sT_59, sT_60, sT_61, sT_62, sT_63, sT_64, sT_65, sT_66, sT_67, sT_68, sT_69, sT_70, sT_71, sT_72, sT_73, sT_74, sT_75, sT_76, sT_77, sT_78, sT_79, sT_80, sN_1, sN_2, sN_19, sN_21, sN_23, sN_24, sN_26, sN_29, sN_31, sN_33, sN_35, sN_36, sN_37, sN_39, sN_40, sN_42, sN_44, sN_45, sN_46, sN_48, sN_49, sN_50, sN_51, sN_52, sN_53, sN_54, sN_55, sN_56, sN_57, sN_58, sN_59, sN_60, sN_61, sN_62, sN_63, sN_64, sN_65, sN_66, sN_67, sN_68, sN_69, sN_70, sN_71, sN_72, sN_73, sN_74, sN_75, sN_76, sN_77, sN_78, sN_79, sN_80, sR_0_34, sR_0_38, sR_1_34, sR_1_38, sR_64_20, sR_64_22, sR_128_25, sR_128_28, sR_194_17, sR_195_17, sR_196_17, sR_197_17, sR_258_30, sR_258_32, sR_258_41, sR_384_43, sR_448_18, sR_512_27, sR_513_27, sR_514_27, sR_515_27, sR_516_27, sR_576_16, sR_577_16, sR_578_16, sR_579_16, sR_580_16, sR_581_16, sR_582_16, sR_583_16, sR_584_16, sR_641_47, sR_643_47, sR_645_47, sR_646_47, sR_647_47, sR_648_47, sR_649_47, sR_650_47, sR_651_47, sR_652_47, sR_653_47, sR_654_47, sR_655_47, sR_656_47, sR_657_47, sR_658_47, sR_659_47, sR_661_47, sR_662_47, sR_663_47, sR_664_47, sR_665_47, sR_669_47, sR_670_47, sR_671_47, sR_672_47, sR_673_47, sR_674_47, sR_676_47, sR_677_47, sR_679_47, sR_680_47, sR_681_47, SH_I, SH_A, SH_G, SH_C, hS, Option.getD_some, ne_eq, reduceCtorEq, not_false_eq_true, not_true_eq_false, Option.bind_some, Option.toList_none, Option.toList_some, List.nil_append, List.cons_append, List.append_nil, ↓reduceIte, and_self, true_and, and_true, false_and, and_false, or_true, true_or, or_false, false_or, Nat.reduceEqDiff, Nat.reduceAdd, Int32.reduceMul, Int32.reduceAdd, Int32.reduceSub, Int32.reduceToNatClampNeg, Int32.reduceOfNat, Int32.reduceLT, Int32.reduceLE, va_rf]
      · have t := (hC.ps p hp).1.1
        simp (decide := true) only [k102_0, k102_5R, k102_5N, k102_12RR, k102_12RN, k102_12NR, k102_12NN, k102_19R, k102_25, k102_28R, k102_28N, k102_33, k102_38, k102_44, k102_46, k102_51R, k102_59R, k102_71, k102_78RR, k102_78RN, k102_78NR, k102_78NN, k102_90, k102_93, k102_96, k102_101, k102_110, k102_113, k102_122, a1, a2, a3, t, sT_1, sT_2, sT_3, sT_16, sT_17, sT_18, sT_19, sT_20, sT_21, sT_22, sT_23, sT_24, sT_25, sT_26, sT_27, sT_28, sT_29, sT_30, sT_31, sT_32, sT_33, sT_34, sT_35, sT_36, sT_37, sT_38, sT_39, sT_40, sT_41, sT_42, sT_43, sT_44, sT_45, sT_46, sT_47, sT_48, sT_49, sT_50, sT_51, sT_52, sT_53, sT_54, sT_55, sT_56, sT_57, sT_58, sT_59, sT_60, sT_61, sT_62, sT_63, sT_64, sT_65, sT_66, sT_67, sT_68, sT_69, sT_70, sT_71, sT_72, sT_73, sT_74, sT_75, sT_76, sT_77, sT_78, sT_79, sT_80, sN_1, sN_2, sN_19, sN_21, sN_23, sN_24, sN_26, sN_29, sN_31, sN_33, sN_35, sN_36, sN_37, sN_39, sN_40, sN_42, sN_44, sN_45, sN_46, sN_48, sN_49, sN_50, sN_51, sN_52, sN_53, sN_54, sN_55, sN_56, sN_57, sN_58, sN_59, sN_60, sN_61, sN_62, sN_63, sN_64, sN_65, sN_66, sN_67, sN_68, sN_69, sN_70, sN_71, sN_72, sN_73, sN_74, sN_75, sN_76, sN_77, sN_78, sN_79, sN_80, sR_0_34, sR_0_38, sR_1_34, sR_1_38, sR_64_20, sR_64_22, sR_128_25, sR_128_28, sR_194_17, sR_195_17, sR_196_17, sR_197_17, sR_258_30, sR_258_32, sR_258_41, sR_384_43, sR_448_18, sR_512_27, sR_513_27, sR_514_27, sR_515_27, sR_516_27, sR_576_16, sR_577_16, sR_578_16, sR_579_16, sR_580_16, sR_581_16, sR_582_16, sR_583_16, sR_584_16, sR_641_47, sR_643_47, sR_645_47, sR_646_47, sR_647_47, sR_648_47, sR_649_47, sR_650_47, sR_651_47, sR_652_47, sR_653_47, sR_654_47, sR_655_47, sR_656_47, sR_657_47, sR_658_47, sR_659_47, sR_661_47, sR_662_47, sR_663_47, sR_664_47, sR_665_47, sR_669_47, sR_670_47, sR_671_47, sR_672_47, sR_673_47, sR_674_47, sR_676_47, sR_677_47, sR_679_47, sR_680_47, sR_681_47, SH_I, SH_A, SH_G, SH_C, hS, Option.getD_some, ne_eq, reduceCtorEq, not_false_eq_true, not_true_eq_false, Option.bind_some, Option.toList_none, Option.toList_some, List.nil_append, List.cons_append, List.append_nil, ↓reduceIte, and_self, true_and, and_true, false_and, and_false, or_true, true_or, or_false, false_or, Nat.reduceEqDiff, Nat.reduceAdd, Int32.reduceMul, Int32.reduceAdd, Int32.reduceSub, Int32.reduceToNatClampNeg, Int32.reduceOfNat, Int32.reduceLT, Int32.reduceLE, va_rf]
      · have t := (hC.ps p hp).1.1
        simp (decide := true) only [k102_0, k102_5R, k102_5N, k102_12RR, k102_12RN, k102_12NR, k102_12NN, k102_19R, k102_25, k102_28R, k102_28N, k102_33, k102_38, k102_44, k102_46, k102_51R, k102_59R, k102_71, k102_78RR, k102_78RN, k102_78NR, k102_78NN, k102_90, k102_93, k102_96, k102_101, k102_110, k102_113, k102_122, a1, a2, a3, t, sT_1, sT_2, sT_3, sT_16, sT_17, sT_18, sT_19, sT_20, sT_21, sT_22, sT_23, sT_24, sT_25, sT_26, sT_27, sT_28, sT_29, sT_30, sT_31, sT_32, sT_33, sT_34, sT_35, sT_36, sT_37, sT_38, sT_39, sT_40, sT_41, sT_42, sT_43, sT_44, sT_45, sT_46, sT_47, sT_48, sT_49, sT_50, sT_51, sT_52, sT_53, sT_54, sT_55, sT_56, sT_57, sT_58, sT_59, sT_60, sT_61, sT_62, sT_63, sT_64, sT_65, sT_66, sT_67, sT_68, sT_69, sT_70, sT_71, sT_72, sT_73, sT_74, sT_75, sT_76, sT_77, sT_78, sT_79, sT_80, sN_1, sN_2, sN_19, sN_21, sN_23, sN_24, sN_26, sN_29, sN_31, sN_33, sN_35, sN_36, sN_37, sN_39, sN_40, sN_42, sN_44, sN_45, sN_46, sN_48, sN_49, sN_50, sN_51, sN_52, sN_53, sN_54, sN_55, sN_56, sN_57, sN_58, sN_59, sN_60, sN_61, sN_62, sN_63, sN_64, sN_65, sN_66, sN_67, sN_68, sN_69, sN_70, sN_71, sN_72, sN_73, sN_74, sN_75, sN_76, sN_77, sN_78, sN_79, sN_80, sR_0_34, sR_0_38, sR_1_34, sR_1_38, sR_64_20, sR_64_22, sR_128_25, sR_128_28, sR_194_17, sR_195_17, sR_196_17, sR_197_17, sR_258_30, sR_258_32, sR_258_41, sR_384_43, sR_448_18, sR_512_27, sR_513_27, sR_514_27, sR_515_27, sR_516_27, sR_576_16, sR_577_16, sR_578_16, sR_579_16, sR_580_16, sR_581_16, sR_582_16, sR_583_16, sR_584_16, sR_641_47, sR_643_47, sR_645_47, sR_646_47, sR_647_47, sR_648_47, sR_649_47, sR_650_47, sR_651_47, sR_652_47, sR_653_47, sR_654_47, sR_655_47, sR_656_47, sR_657_47, sR_658_47, sR_659_47, sR_661_47, sR_662_47, sR_663_47, sR_664_47, sR_665_47, sR_669_47, sR_670_47, sR_671_47, sR_672_47, sR_673_47, sR_674_47, sR_676_47, sR_677_47, sR_679_47, sR_680_47, sR_681_47, SH_I, SH_A, SH_G, SH_C, hS, Option.getD_some, ne_eq, reduceCtorEq, not_false_eq_true, not_true_eq_false, Option.bind_some, Option.toList_none, Option.toList_some, List.nil_append, List.cons_append, List.append_nil, ↓reduceIte, and_self, true_and, and_true, false_and, and_false, or_true, true_or, or_false, false_or, Nat.reduceEqDiff, Nat.reduceAdd, Int32.reduceMul, Int32.reduceAdd, Int32.reduceSub, Int32.reduceToNatClampNeg, Int32.reduceOfNat, Int32.reduceLT, Int32.reduceLE, va_rf]
      · have t := (hC.ps p hp).1.1
        simp (decide := true) only [k102_0, k102_5R, k102_5N, k102_12RR, k102_12RN, k102_12NR, k102_12NN, k102_19R, k102_25, k102_28R, k102_28N, k102_33, k102_38, k102_44, k102_46, k102_51R, k102_59R, k102_71, k102_78RR, k102_78RN, k102_78NR, k102_78NN, k102_90, k102_93, k102_96, k102_101, k102_110, k102_113, k102_122, a1, a2, a3, t, sT_1, sT_2, sT_3, sT_16, sT_17, sT_18, sT_19, sT_20, sT_21, sT_22, sT_23, sT_24, sT_25, sT_26, sT_27, sT_28, sT_29, sT_30, sT_31, sT_32, sT_33, sT_34, sT_35, sT_36, sT_37, sT_38, sT_39, sT_40, sT_41, sT_42, sT_43, sT_44, sT_45, sT_46, sT_47, sT_48, sT_49, sT_50, sT_51, sT_52, sT_53, sT_54, sT_55, sT_56, sT_57, sT_58, sT_59, sT_60, sT_61, sT_62, sT_63, sT_64, sT_65, sT_66, sT_67, sT_68, sT_69, sT_70, sT_71, sT_72, sT_73, sT_74, sT_75, sT_76, sT_77, sT_78, sT_79, sT_80, sN_1, sN_2, sN_19, sN_21, sN_23, sN_24, sN_26, sN_29, sN_31, sN_33, sN_35, sN_36, sN_37, sN_39, sN_40, sN_42, sN_44, sN_45, sN_46, sN_48, sN_49, sN_50, sN_51, sN_52, sN_53, sN_54, sN_55, sN_56, sN_57, sN_58, sN_59, sN_60, sN_61, sN_62, sN_63, sN_64, sN_65, sN_66, sN_67, sN_68, sN_69, sN_70, sN_71, sN_72, sN_73, sN_74, sN_75, sN_76, sN_77, sN_78, sN_79, sN_80, sR_0_34, sR_0_38, sR_1_34, sR_1_38, sR_64_20, sR_64_22, sR_128_25, sR_128_28, sR_194_17, sR_195_17, sR_196_17, sR_197_17, sR_258_30, sR_258_32, sR_258_41, sR_384_43, sR_448_18, sR_512_27, sR_513_27, sR_514_27, sR_515_27, sR_516_27, sR_576_16, sR_577_16, sR_578_16, sR_579_16, sR_580_16, sR_581_16, sR_582_16, sR_583_16, sR_584_16, sR_641_47, sR_643_47, sR_645_47, sR_646_47, sR_647_47, sR_648_47, sR_649_47, sR_650_47, sR_651_47, sR_652_47, sR_653_47, sR_654_47, sR_655_47, sR_656_47, sR_657_47, sR_658_47, sR_659_47, sR_661_47, sR_662_47, sR_663_47, sR_664_47, sR_665_47, sR_669_47, sR_670_47, sR_671_47, sR_672_47, sR_673_47, sR_674_47, sR_676_47, sR_677_47, sR_679_47, sR_680_47, sR_681_47, SH_I, SH_A, SH_G, SH_C, hS, Option.getD_some, ne_eq, reduceCtorEq, not_false_eq_true, not_true_eq_false, Option.bind_some, Option.toList_none, Option.toList_some, List.nil_append, List.cons_append, List.append_nil, ↓reduceIte, and_self, true_and, and_true, false_and, and_false, or_true, true_or, or_false, false_or, Nat.reduceEqDiff, Nat.reduceAdd, Int32.reduceMul, Int32.reduceAdd, Int32.reduceSub, Int32.reduceToNatClampNeg, Int32.reduceOfNat, Int32.reduceLT, Int32.reduceLE, va_rf]
    · show jx (d + 5) 184 0 [some (.ref 47), some (.int x), some (.int y), some (.int z), some (.int so), some (.int k)] [] σ = _
      rw [k184_0 (sT_47 hS), b1]
      simp only [Option.bind_some, Option.toList_some, List.cons_append, List.nil_append]
      rw [k184_7, if_pos rfl, k184_21]
end WI6
end S_9a
section S_9b
/-! change: the orders put in -/
def newO (W : Nat) (x : BN × BN) (o : Nat → Int32) : Nat → Int32 := wrO W (encB (-1) x.1) (encB (-1) x.2) (keepF W o)
def newP (W : Nat) (a : AR) (x : BN × BN) (A : List (Nat → Int32)) (pl : Nat) : List (Nat → Int32) := A.take pl ++ (a.o2.map (newO W x) ++ A.drop (pl + a.o1.length))
theorem newP_len {W pl : Nat} {a : AR} {x : BN × BN} {A : List (Nat → Int32)} (h : pl + a.o1.length ≤ A.length) : (newP W a x A pl).length = A.length - a.o1.length + a.o2.length := by
  unfold newP
  rw [List.length_append, List.length_append, List.length_take, List.length_map, List.length_drop, Nat.min_eq_left (by omega)]
  omega
theorem newP_get {W pl : Nat} {a : AR} {x : BN × BN} {A : List (Nat → Int32)} (h : pl + a.o1.length ≤ A.length) {i : Nat} (hi : i < A.length - a.o1.length + a.o2.length) : (newP W a x A pl).getD i (fun _ => 0) = if i < pl then A.getD i (fun _ => 0) else if i < pl + a.o2.length then newO W x (a.o2.getD (i - pl) (fun _ => 0)) else A.getD (i - a.o2.length + a.o1.length) (fun _ => 0) := by
  unfold newP
  have lt : (A.take pl).length = pl := by rw [List.length_take, Nat.min_eq_left (by omega)]
  rw [getD_app, lt]
  by_cases h1 : i < pl
  · rw [if_pos h1, if_pos h1, List.getD_eq_getElem?_getD, List.getD_eq_getElem?_getD, List.getElem?_take_of_lt h1]
  · rw [if_neg h1, if_neg h1, getD_app, List.length_map]
    by_cases h2 : i < pl + a.o2.length
    · rw [if_pos (by omega), if_pos h2, List.getD_eq_getElem?_getD, List.getElem?_map, List.getD_eq_getElem?_getD, List.getElem?_eq_getElem (by omega)]
      rfl
    · rw [if_neg (by omega), if_neg h2, List.getD_eq_getElem?_getD, List.getElem?_drop, List.getD_eq_getElem?_getD]
      congr 2
      omega
/-- what a window has settled for a rule -/
def FUL (nr nm : Nat) (x : BN × BN) : Prop := (∀ k, k < nr → ∃ u, u < 4 ∧ x.1 k = some u) ∧ (∀ k, k < nm → ∃ u, u < 8 ∧ x.2 k = some u)
theorem win_ful {W m pl : Nat} {a : AR} (hf : WFr a) {ps : List (Nat → Int32)} {x : BN × BN} (h : winF W a.o1 m ps pl = some x) (ib : IB x.1) (ic : IC x.2) : FUL a.nr a.nm x := by
  obtain ⟨h1, h2⟩ := win_full hf h
  have := hf.nr4
  have := hf.nm3
  refine ⟨fun k hk => ?_, fun k hk => ?_⟩
  · obtain ⟨u, hu⟩ := h1 k hk
    exact ⟨u, ib.1 k u (by omega) hu, hu⟩
  · obtain ⟨u, hu⟩ := h2 k hk
    exact ⟨u, ic k u (by omega) hu, hu⟩
theorem tvV_cong {nm : Nat} (hnm : nm ≤ 3) {mv mv' : Nat → Int32} (e : ∀ i, i < nm → mv i = mv' i) {t : Int32} (ht : WFt nm t) : tvV mv t = tvV mv' t := by
  unfold tvV
  rcases ht with ⟨u, hu, eu⟩ | ⟨i, hi, ei⟩
  · have n : ¬ (16 : Int32) ≤ nI u := nI_ge (b := 16) (by omega) (by omega)
    rw [eu, if_neg n, if_neg n]
  · have v := i16n (i := i) (by omega)
    have n1 : ¬ (nI i < 0 ∨ (3 : Int32) ≤ nI i) := by
      intro z
      rcases z with z | z
      · exact nn0 (by omega) z
      · exact nI_ge (b := 3) (by omega) (by omega) z
    rw [ei, if_pos v.1, if_pos v.1, v.2.2]
    unfold nmV
    rw [if_neg n1, if_neg n1, nI_clamp (by omega), e i hi]
theorem numM_cong {W nr nm : Nat} (hnm : nm ≤ 3) {mv mv' : Nat → Int32} (e : ∀ i, i < nm → mv i = mv' i) {o : Nat → Int32} (h : WFo nr nm o) (hn : numN (opO o) = true) : numM W mv o = numM W mv' o := by
  obtain ⟨k, k1, k2, k3, k4, k5⟩ := h
  have ko : opO o = k := by unfold opO; rw [k2]; exact nI_clamp (by omega)
  unfold numM
  rw [tvV_cong hnm e (k4 (by rw [← ko]; exact hn))]
  rcases k5 with k5 | ⟨_, _, k6⟩
  · rw [k5]; rfl
  · rw [tvV_cong hnm e k6]
theorem newO_val {W nr nm : Nat} (hW : W = 1 ∨ W = 2 ∨ W = 3) (hnr : nr ≤ 4) (hnm : nm ≤ 3) {x : BN × BN} (hF : FUL nr nm x) {o : Nat → Int32} (h : WFo nr nm o) : newO W x o 0 = o 0 ∧ (∀ j, j < regN (opO o) → ∃ w u, w < 4 ∧ u < 4 ∧ o (j + 1) = nI w ∧ x.1 w = some u ∧ newO W x o (j + 1) = nI u) ∧ (numN (opO o) = true → ∀ mv : Nat → Int32, (∀ i, i < nm → mv i = encB (-1) x.2 i) → newO W x o 2 = numM W mv o ∧ ∃ u, u < 8 ∧ (¬ opO o = 0 → u < 4) ∧ numM W mv o = nI u) ∧ (∀ j, 1 ≤ j → regN (opO o) < j → ¬ (j = 2 ∧ numN (opO o) = true) → newO W x o j = 0) := by
  have h0 := h
  obtain ⟨k, k1, k2, k3, k4, k5⟩ := h
  have ko : opO o = k := by unfold opO; rw [k2]; exact nI_clamp (by omega)
  obtain ⟨e0, e1, e2⟩ := keep_op W o
  refine ⟨?_, fun j hj => ?_, fun hn mv hmv => ?_, fun j h1 h2 h3 => ?_⟩
  · exact e0
  · obtain ⟨w, hw, ew⟩ := k3 j (by rw [← ko]; exact hj)
    obtain ⟨u, hu, eu⟩ := hF.1 w hw
    refine ⟨w, u, by omega, hu, ew, eu, ?_⟩
    have kj : (keepF W o) (j + 1) = o (j + 1) := by
      by_cases j2 : j + 1 = 2
      · have nn : ¬ numN (opO o) = true := fun z => by have := numN1 z; omega
        have : keepF W o = o := by unfold keepF; rw [if_neg (fun z => nn z.1)]
        rw [this]
      · exact e2 _ j2
    unfold newO wrO
    rw [if_neg (by omega), e1, if_pos (by omega), kj, ew]
    unfold rgV
    rw [if_neg (fun q => by
      rcases q with q | q
      · exact nn0 (by omega) q
      · exact nI_ge (b := 4) (by omega) (by omega) q), nI_clamp (by omega)]
    unfold encB
    rw [eu]
  · have r1 := numN1 hn
    have hm : MV nm (encB (-1) x.2) := fun i hi => by
      obtain ⟨u, hu, eu⟩ := hF.2 i hi
      exact ⟨u, by omega, by unfold encB; rw [eu]⟩
    have nk := num_keep hW hnm hm h0 hn
    have nc := numM_cong (W := W) hnm hmv h0 hn
    refine ⟨?_, ?_⟩
    · unfold newO wrO
      rw [if_neg (by decide), e1, if_neg (by omega), if_pos ⟨rfl, hn⟩, nk, nc]
    · rw [nc]
      obtain ⟨i, hi, e⟩ := sm_val hnm hm (k4 (by rw [← ko]; exact hn)) (by
        rcases k5 with k5 | ⟨_, a, b⟩
        · exact Or.inl k5
        · exact Or.inr ⟨a, b⟩)
      obtain ⟨u, u1, u2, u3⟩ := kp_bnd hW hn hi
      refine ⟨u, u1, u2, ?_⟩
      unfold numM
      rw [e]
      exact u3
  · unfold newO wrO
    rw [if_neg (by omega), e1, if_neg (by omega), if_neg h3]
theorem newO_pwf {W nr nm : Nat} (hW : W = 1 ∨ W = 2 ∨ W = 3) (hnr : nr ≤ 4) (hnm : nm ≤ 3) {x : BN × BN} (hF : FUL nr nm x) {o : Nat → Int32} (h : WFo nr nm o) : PWF (newO W x o) := by
  obtain ⟨v0, v1, v2, v3⟩ := newO_val hW hnr hnm hF h
  obtain ⟨ok1, ok2⟩ := h.op
  have r3 := regN3 (opO o)
  have f1 : ∃ u, u < 4 ∧ newO W x o 1 = nI u := by
    by_cases r : 1 ≤ regN (opO o)
    · obtain ⟨w, u, _, hu, _, _, e⟩ := v1 0 (by omega)
      exact ⟨u, hu, e⟩
    · exact ⟨0, by decide, v3 1 (by decide) (by omega) (fun z => absurd z.1 (by decide))⟩
  have f3 : ∃ u, u < 4 ∧ newO W x o 3 = nI u := by
    by_cases r : 3 ≤ regN (opO o)
    · obtain ⟨w, u, _, hu, _, _, e⟩ := v1 2 (by omega)
      exact ⟨u, hu, e⟩
    · exact ⟨0, by decide, v3 3 (by decide) (by omega) (fun z => absurd z.1 (by decide))⟩
  have f2 : ∃ u, u < 8 ∧ (¬ opO o = 0 → u < 4) ∧ newO W x o 2 = nI u := by
    by_cases r : 2 ≤ regN (opO o)
    · obtain ⟨w, u, _, hu, _, _, e⟩ := v1 1 (by omega)
      exact ⟨u, by omega, fun _ => hu, e⟩
    · by_cases hn : numN (opO o) = true
      · obtain ⟨q1, u, q2, q3, q4⟩ := v2 hn _ (fun _ _ => rfl)
        exact ⟨u, q2, q3, q1.trans q4⟩
      · exact ⟨0, by decide, fun _ => by decide, v3 2 (by decide) (by omega) (fun z => hn z.2)⟩
  obtain ⟨a, a1, a2⟩ := f1
  obtain ⟨c, c1, c2, c3⟩ := f2
  obtain ⟨e, e1, e2⟩ := f3
  exact ⟨opO o, a, c, e, ⟨ok1, a1, e1, c1, c2⟩, by rw [v0]; exact ok2, a2, c3, e2⟩
theorem newP_pwf {W pl : Nat} {a : AR} (hW : W = 1 ∨ W = 2 ∨ W = 3) (hf : WFr a) {x : BN × BN} (hF : FUL a.nr a.nm x) {A : List (Nat → Int32)} (hA : ∀ o, o ∈ A → PWF o) : ∀ o, o ∈ newP W a x A pl → PWF o := by
  intro o ho
  rcases List.mem_append.mp ho with q | q
  · exact hA o (List.mem_of_mem_take q)
  · rcases List.mem_append.mp q with q | q
    · obtain ⟨o', h1, h2⟩ := List.mem_map.mp q
      rw [← h2]
      exact newO_pwf hW hf.nr4 hf.nm3 hF (hf.f2 o' h1)
    · exact hA o (List.mem_of_mem_drop q)
theorem wrO_cong {W : Nat} {r r' m m' : Nat → Int32} (h1 : ∀ k, k < 4 → r k = r' k) (h2 : ∀ k, k < 3 → m k = m' k) (o : Nat → Int32) : wrO W r m o = wrO W r' m' o := by
  have R : ∀ t, rgV r t = rgV r' t := fun t => by
    unfold rgV
    by_cases q : t < 0 ∨ 4 ≤ t
    · rw [if_pos q, if_pos q]
    · have z := i32_nat (c := t) (n := 4) (by decide) (fun w => q (Or.inl w)) (fun w => q (Or.inr w))
      rw [if_neg q, if_neg q, h1 _ z.2]
  have N : ∀ t, nmV m t = nmV m' t := fun t => by
    unfold nmV
    by_cases q : t < 0 ∨ 3 ≤ t
    · rw [if_pos q, if_pos q]
    · have z := i32_nat (c := t) (n := 3) (by decide) (fun w => q (Or.inl w)) (fun w => q (Or.inr w))
      rw [if_neg q, if_neg q, h2 _ z.2]
  have T : ∀ t, tvV m t = tvV m' t := fun t => by unfold tvV; rw [N]
  funext j
  unfold wrO numC
  rw [R, T, T]
/-- the place p changed, rule r has been used once more -/
def bmp (a : AR) : AR := (a.nr, a.nm, a.hc, a.o1, a.o2, a.P, a.C, a.ch + 1, a.on)
def chS (s : AS) (p r : Nat) (B : List (Nat → Int32)) : AS := (s.W, s.len, s.b, s.rs.set r (bmp (s.rs.getD r ar0)), s.ps.set p B, s.ns, s.tl, s.ap)
theorem set_ps {s : AS} {k : Nat} (h : k < s.ps.length) (a : List (Nat → Int32)) {i : Nat} : (s.ps.set k a).getD i [] = if i = k then a else s.ps.getD i [] := by
  rw [List.getD_eq_getElem?_getD, List.getD_eq_getElem?_getD, List.getElem?_set]
  by_cases e : i = k
  · subst e
    rw [if_pos rfl, if_pos rfl, if_pos h]
    rfl
  · rw [if_neg (fun z => e z.symm), if_neg e]
theorem chS_wf {s : AS} {p r : Nat} {B : List (Nat → Int32)} (hs : WFs s) (hr : r < s.rs.length) (hB : B.length ≤ 24 ∧ ∀ o, o ∈ B → PWF o) : WFs (chS s p r B) := by
  have e1 : (chS s p r B).rs.length = s.rs.length := List.length_set
  have e2 : (chS s p r B).ps.length = s.ps.length := List.length_set
  have fr := hs.fr _ (mem_rs hr)
  refine ⟨hs.w, hs.l, hs.byy, by rw [e1]; exact hs.r24, by rw [e2]; exact hs.p16, fun b hb => ?_, fun q hq => ?_, hs.n144⟩
  · rcases List.mem_or_eq_of_mem_set hb with q | q
    · exact hs.fr b q
    · rw [q]; exact ⟨fr.nr4, fr.nm3, fr.f1, fr.f2, fr.z4, fr.l1, fr.l4, fr.m4, fr.p1, fr.pm, fr.cp, fr.oc⟩
  · rcases List.mem_or_eq_of_mem_set hq with w | w
    · exact hs.fp q w
    · rw [w]; exact hB
end S_9b
