/-! change: the reference, whole; change of both -/
section CH4
variable {d : Nat} {σ : jS} {s : AS} {cr cp : Nat} {qr qp : Nat → Nat}
/-- the orders behind are moved -/
def MVd (σ υ : jS) (lo hi n m : Nat) : Prop := FR [66, 67, 68, 69] σ υ ∧ ∀ j i, j < 4 → jA υ (66 + j) i = if lo ≤ i ∧ i < hi then jA σ (66 + j) (i + n - m) else jA σ (66 + j) i
theorem c186m {p pl r n m S : Nat} (hS : SH σ) (hp : p < 16) (h1 : pl + n ≤ S) (h2 : S - n + m ≤ 24) (hS24 : S ≤ 24) (n1 : 1 ≤ n) (n4 : n ≤ 4) (m4 : m ≤ 4) (hr : r < 24) (e0 : jA σ 50 (2 * r) = nI n) (e1 : jA σ 50 (2 * r + 1) = nI m) (e5 : jA σ 65 p = nI S) : ∃ υ, MVd σ υ (24 * p + pl + m) (24 * p + (S + m - n)) n m ∧ jx (d + 3) 186 0 [some (.ref 47), some (.int (nI p)), some (.int (nI pl)), some (.int (nI r)), none, none, none, none, none, none, none, none] [] σ = jx (d + 3) 186 143 (w9 p pl r n m S (some (.int (nI 0))) none none none) [] (jsA υ 65 p (nI (S + m - n))) := by
  have R : ∀ {υ : jS} {g a : Nat}, jR υ g 47 = some a → (jR υ g 47).getD 0 = a ∧ jR υ g 47 ≠ none := fun h => by rw [h]; exact ⟨rfl, fun z => nomatch z⟩
  have q0 := R (sR_645_47 hS)
  have q1 := R (sR_661_47 hS)
  have c2r : (2 : Int32) * nI r = nI (2 * r) := by rw [show (2 : Int32) = nI 2 from rfl, nmul]
  have c2r1 : (2 : Int32) * nI r + 1 = nI (2 * r + 1) := by rw [c2r, ← nI_succ]
  have c24 : (24 : Int32) * nI p = nI (24 * p) := by rw [show (24 : Int32) = nI 24 from rfl, nmul]
  have st : jx (d + 3) 186 0 [some (.ref 47), some (.int (nI p)), some (.int (nI pl)), some (.int (nI r)), none, none, none, none, none, none, none, none] [] σ = if nI m ≤ nI n then jx (d + 3) 186 87 (w9 p pl r n m S none none none none) [] σ else jx (d + 3) 186 43 (w9 p pl r n m S none none none none) [] σ := by
    rw [k186_0 (sT_47 hS) q0.2 (by rw [q0.1]; exact Or.inl (sT_50 hS)) (by rw [q0.1, sN_50 hS, c2r]; exact jin_n (by omega) (by decide)) (by rw [q0.1, sN_50 hS, c2r1]; exact jin_n (by omega) (by decide)) q1.2 (by rw [q1.1]; exact Or.inl (sT_65 hS)) (by rw [q1.1, sN_65 hS]; exact jin_n (by omega) (by decide)), q0.1, q1.1, c2r1, c2r, c24, nI_clamp (by omega), nI_clamp (by omega), nI_clamp (by omega), e0, e1, e5]
  have fin : ∀ {υ : jS}, FR [66, 67, 68, 69] σ υ → (jR υ 661 47).getD 0 = 65 ∧ jR υ 661 47 ≠ none ∧ jT υ ((jR υ 661 47).getD 0) = 20 ∧ jin (jN υ ((jR υ 661 47).getD 0)) (nI p) := fun F => by
    have h := F.sh hS
    have q := R (sR_661_47 h)
    exact ⟨q.1, q.2, by rw [q.1]; exact sT_65 h, by rw [q.1, sN_65 h]; exact jin_n hp (by decide)⟩
  have eS : nI S + nI m - nI n = nI (S + m - n) := by rw [nadd, nsub (by omega)]
  have cp' : (nI p).toNatClampNeg = p := nI_clamp (by omega)
  by_cases hmn : m ≤ n
  · have L : ∀ f k υ, k + f = S → pl + n ≤ k → MVd σ υ (24 * p + pl + m) (24 * p + (k + m - n)) n m → ∃ υ', MVd σ υ' (24 * p + pl + m) (24 * p + (S + m - n)) n m ∧ jx (d + 3) 186 93 (w9 p pl r n m S (some (.int (nI k))) none none none) [] υ = jx (d + 3) 186 143 (w9 p pl r n m S (some (.int (nI 0))) none none none) [] (jsA υ' 65 p (nI (S + m - n))) := by
      intro f
      induction f with
      | zero =>
        intro k υ hk hk2 h
        have e : k = S := by omega
        subst e
        obtain ⟨f1, f2, f3, f4⟩ := fin h.1
        refine ⟨υ, h, ?_⟩
        rw [k186_93, if_pos (nI_le (Nat.le_refl _) (by omega)), k186_126 (sT_47 (h.1.sh hS)) f2 f3 f4, f1, cp', eS]
        rfl
      | succ f ih =>
        intro k υ hk hk2 h
        have hSu := h.1.sh hS
        have x1 : nI (24 * p) + nI k = nI (24 * p + k) := by rw [nadd]
        have x2 : nI (24 * p + k) + nI m - nI n = nI (24 * p + (k + m - n)) := by rw [nadd, nsub (by omega)]; congr 1; omega
        obtain ⟨υ1, e1, F1, g1⟩ := c178 (d := d + 2) hSu (x := 24 * p + k) (y := 24 * p + (k + m - n)) (by omega) (by omega)
        obtain ⟨υ', h', e'⟩ := ih (k + 1) υ1 (by omega) (by omega) ⟨h.1.trans F1, fun j i hj => by
          rw [g1 j i hj]
          by_cases e : i = 24 * p + (k + m - n)
          · rw [if_pos e, if_pos (by omega), h.2 j _ hj, if_neg (by omega)]
            congr 1
            omega
          · rw [if_neg e, h.2 j i hj]
            by_cases b : 24 * p + pl + m ≤ i ∧ i < 24 * p + (k + m - n)
            · rw [if_pos b, if_pos (by omega)]
            · rw [if_neg b, if_neg (by omega)]⟩
        refine ⟨υ', h', ?_⟩
        rw [k186_93, if_neg (nI_ge (by omega) (by omega)), k186_100 (sT_47 hSu), x1, x2, e1]
        simp only [Option.bind_some, Option.toList_none, List.nil_append]
        rw [k186_120, ← nI_succ]
        exact e'
    obtain ⟨υ, h, e⟩ := L (S - (pl + n)) (pl + n) σ (by omega) (Nat.le_refl _) ⟨FR.refl _ σ, fun j i _ => by rw [if_neg (by omega)]⟩
    refine ⟨υ, h, ?_⟩
    rw [st, if_pos (nI_le hmn (by omega)), k186_87, nadd]
    exact e
  · have L : ∀ f k υ, pl + n + f = k → k ≤ S → MVd σ υ (24 * p + (k + m - n)) (24 * p + (S + m - n)) n m → ∃ υ', MVd σ υ' (24 * p + pl + m) (24 * p + (S + m - n)) n m ∧ jx (d + 3) 186 49 (w9 p pl r n m S (some (.int (nI (k - 1)))) none none none) [] υ = jx (d + 3) 186 143 (w9 p pl r n m S (some (.int (nI 0))) none none none) [] (jsA υ' 65 p (nI (S + m - n))) := by
      intro f
      induction f with
      | zero =>
        intro k υ hk hk2 h
        have e : k = pl + n := by omega
        subst e
        obtain ⟨f1, f2, f3, f4⟩ := fin h.1
        refine ⟨υ, by rw [show 24 * p + pl + m = 24 * p + (pl + n + m - n) by omega]; exact h, ?_⟩
        rw [k186_49, nadd, if_pos (by rw [n31 (by omega) (by omega)]; omega), k186_84 (sT_47 (h.1.sh hS)) f2 f3 f4, f1, cp', eS]
        rfl
      | succ f ih =>
        intro k υ hk hk2 h
        have hSu := h.1.sh hS
        have x1 : nI (24 * p) + nI (k - 1) = nI (24 * p + (k - 1)) := by rw [nadd]
        have x2 : nI (24 * p + (k - 1)) + nI m - nI n = nI (24 * p + (k - 1 + m - n)) := by rw [nadd, nsub (by omega)]; congr 1; omega
        obtain ⟨υ1, e1, F1, g1⟩ := c178 (d := d + 2) hSu (x := 24 * p + (k - 1)) (y := 24 * p + (k - 1 + m - n)) (by omega) (by omega)
        obtain ⟨υ', h', e'⟩ := ih (k - 1) υ1 (by omega) (by omega) ⟨h.1.trans F1, fun j i hj => by
          rw [g1 j i hj]
          by_cases e : i = 24 * p + (k - 1 + m - n)
          · rw [if_pos e, if_pos (by omega), h.2 j _ hj, if_neg (by omega)]
            congr 1
            omega
          · rw [if_neg e, h.2 j i hj]
            by_cases b : 24 * p + (k + m - n) ≤ i ∧ i < 24 * p + (S + m - n)
            · rw [if_pos b, if_pos (by omega)]
            · rw [if_neg b, if_neg (by omega)]⟩
        refine ⟨υ', h', ?_⟩
        have pr : nI (k - 1) + (-1) = nI (k - 1 - 1) := by
          have := nI_prd (k - 1 - 1)
          rw [show k - 1 - 1 + 1 = k - 1 by omega] at this
          exact this
        rw [k186_49, nadd, if_neg (by rw [n31 (by omega) (by omega)]; omega), k186_58 (sT_47 hSu), x1, x2, e1]
        simp only [Option.bind_some, Option.toList_none, List.nil_append]
        rw [k186_78, pr]
        exact e'
    obtain ⟨υ, h, e⟩ := L (S - (pl + n)) S σ (by omega) (Nat.le_refl _) ⟨FR.refl _ σ, fun j i _ => by rw [if_neg (by omega)]⟩
    refine ⟨υ, h, ?_⟩
    have s1 : nI S - 1 = nI (S - 1) := by rw [show (1 : Int32) = nI 1 from rfl, nsub (by omega)]
    rw [st, if_neg (by rw [n31le (by omega) (by omega)]; exact hmn), k186_43, s1]
    exact e
theorem c186 (hS : SH σ) (hs : WFs s) (hM : CM s σ) {p r pl : Nat} {x : BN × BN} (hp : p < s.ps.length) (hr : r < s.rs.length) (hw : winF s.W (s.rs.getD r ar0).o1 (s.rs.getD r ar0).o2.length (s.ps.getD p []) pl = some x) (hb : RB (-4) σ 76 77 x) (ib : IB x.1) (ic : IC x.2) : ∃ σ', jx (d + 3) 186 0 [some (.ref 47), some (.int (nI p)), some (.int (nI pl)), some (.int (nI r)), none, none, none, none, none, none, none, none] [] σ = some (none, σ') ∧ FR [64, 65, 66, 67, 68, 69] σ σ' ∧ CM (chS s p r (newP s.W (s.rs.getD r ar0) x (s.ps.getD p []) pl)) σ' := by
  obtain ⟨a, ea⟩ : ∃ a, s.rs.getD r ar0 = a := ⟨_, rfl⟩
  obtain ⟨A, eA⟩ : ∃ A, s.ps.getD p [] = A := ⟨_, rfl⟩
  have mr := hM.rs r hr
  have fr := hs.fr _ (mem_rs hr)
  have pa := hM.ps p hp
  have hr24 := hs.r24
  have hp16 := hs.p16
  rw [ea] at mr fr hw
  rw [eA] at pa hw
  rw [ea, eA]
  have hF := win_ful fr hw ib ic
  have wc : pl + a.o1.length ≤ A.length ∧ A.length - a.o1.length + a.o2.length ≤ 24 := by
    unfold winF at hw
    split at hw
    · assumption
    · cases hw
  obtain ⟨wc1, wc2⟩ := wc
  obtain ⟨⟨rg, m1, m2, m3, m4, m5, m6, m7, m8, m9, m10⟩, -⟩ := mr
  have l1 := fr.l1
  have z24 := pa.2.1
  obtain ⟨υ, hMV, e1⟩ := c186m (d := d) (pl := pl) hS (by omega) wc1 wc2 z24 l1 m3 m4 (by omega) m1 m2 pa.1
  obtain ⟨υ0, e0⟩ : ∃ υ0, jsA υ 65 p (nI (A.length + a.o2.length - a.o1.length)) = υ0 := ⟨_, rfl⟩
  rw [e0] at e1
  have F0 : FR [64, 65, 66, 67, 68, 69] σ υ0 := e0 ▸ (hMV.1.mono (fun z hz => by simp at hz; simp; omega)).A (by decide)
  have V0 : ∀ j i, j < 4 → jA υ0 (66 + j) i = if 24 * p + pl + a.o2.length ≤ i ∧ i < 24 * p + (A.length + a.o2.length - a.o1.length) then jA σ (66 + j) (i + a.o1.length - a.o2.length) else jA σ (66 + j) i := fun j i hj => by
    rw [← e0, zA_A, if_neg (fun z => by omega)]; exact hMV.2 j i hj
  have V65 : ∀ i, jA υ0 65 i = if i = p then nI (A.length + a.o2.length - a.o1.length) else jA σ 65 i := fun i => by
    rw [← e0, zA_A]
    by_cases e : i = p
    · rw [if_pos ⟨rfl, e⟩, if_pos e]
    · rw [if_neg (fun z => e z.2), if_neg e]; exact (hMV.1.2 65 (by decide)).2 i
  have L : ∀ f i τ l9 l10 l11, i + f = a.o2.length → FR [66, 67, 68, 69] υ0 τ → (∀ j z, j < 4 → jA τ (66 + j) z = if 24 * p + pl ≤ z ∧ z < 24 * p + pl + i then newO s.W x (a.o2.getD (z - (24 * p + pl)) (fun _ => 0)) j else jA υ0 (66 + j) z) → ∃ τ' l8 l9' l10' l11', jx (d + 3) 186 143 (w9 p pl r a.o1.length a.o2.length A.length (some (.int (nI i))) l9 l10 l11) [] τ = jx (d + 3) 186 329 (w9 p pl r a.o1.length a.o2.length A.length l8 l9' l10' l11') [] τ' ∧ FR [66, 67, 68, 69] υ0 τ' ∧ (∀ j z, j < 4 → jA τ' (66 + j) z = if 24 * p + pl ≤ z ∧ z < 24 * p + pl + a.o2.length then newO s.W x (a.o2.getD (z - (24 * p + pl)) (fun _ => 0)) j else jA υ0 (66 + j) z) := by
    intro f
    induction f with
    | zero =>
      intro i τ l9 l10 l11 hi F V
      have e : i = a.o2.length := by omega
      subst e
      refine ⟨τ, some (.int (nI a.o2.length)), l9, l10, l11, ?_, F, V⟩
      rw [k186_143, if_pos (nI_le (Nat.le_refl _) (by omega))]
    | succ f ih =>
      intro i τ l9 l10 l11 hi F V
      have hlt : i < a.o2.length := by omega
      have FF : FR [64, 65, 66, 67, 68, 69] σ τ := F0.trans (F.mono (fun z hz => by simp at hz; simp; omega))
      obtain ⟨τ1, b9, b10, b11, e2, F2, V2⟩ := c186o (d := d) (W := s.W) (p := p) (pl := pl) (r := r) (n := a.o1.length) (m := a.o2.length) (S := A.length) (i := i) (nr := a.nr) (nm := a.nm) (x := x) (o := a.o2.getD i (fun _ => 0)) (l9 := l9) (l10 := l10) (l11 := l11) (FF.sh hS) hs.w (by rw [(FF.2 47 (by decide)).1]; exact hM.w) ⟨fun k hk => by rw [(FF.2 76 (by decide)).2]; exact hb.1 k hk, fun k hk => by rw [(FF.2 77 (by decide)).2]; exact hb.2 k hk⟩ hF fr.nr4 fr.nm3 (fr.f2 _ (mem_getD hlt)) ((m10 i hlt).fr FF (fun z h1 h2 => by simp; omega)) (by omega) (by omega) m4 hlt (by omega)
      obtain ⟨τ', l8, c9, c10, c11, e3, F3, V3⟩ := ih (i + 1) τ1 b9 b10 b11 (by omega) (F.trans F2) (fun j z hj => by
        rw [V2 j z hj]
        by_cases e : z = 24 * p + pl + i
        · rw [if_pos e, if_pos (by omega), e, Nat.add_sub_cancel_left]
        · rw [if_neg e, V j z hj]
          by_cases b : 24 * p + pl ≤ z ∧ z < 24 * p + pl + i
          · rw [if_pos b, if_pos (by omega)]
          · rw [if_neg b, if_neg (by omega)])
      exact ⟨τ', l8, c9, c10, c11, e2.trans e3, F3, V3⟩
  obtain ⟨τ, l8, l9, l10, l11, e2, Fτ, Vτ⟩ := L a.o2.length 0 υ0 none none none (by omega) (FR.refl _ υ0) (fun j z _ => by rw [if_neg (by omega)])
  have FF : FR [64, 65, 66, 67, 68, 69] σ τ := F0.trans (Fτ.mono (fun z hz => by simp at hz; simp; omega))
  have Sτ := FF.sh hS
  have R : ∀ {υ : jS} {g a : Nat}, jR υ g 47 = some a → (jR υ g 47).getD 0 = a ∧ jR υ g 47 ≠ none := fun h => by rw [h]; exact ⟨rfl, fun z => nomatch z⟩
  have q9 := R (sR_659_47 Sτ)
  have mr := hM.rs r hr
  rw [ea] at mr
  have c64 : jA τ 64 r = a.ch := by
    rw [(Fτ.2 64 (by decide)).2, ← e0, zA_A, if_neg (fun z => absurd z.1 (by decide)), (hMV.1.2 64 (by decide)).2]
    exact mr.2.2.2.2
  have FX' : FR [64, 65, 66, 67, 68, 69] σ (jsA τ 64 r (a.ch + 1)) := FF.A (by decide)
  refine ⟨jsA τ 64 r (a.ch + 1), ?_, FX', ?_⟩
  · rw [e1]
    refine e2.trans ?_
    rw [k186_329 (sT_47 Sτ) q9.2 (by rw [q9.1]; exact Or.inl (sT_64 Sτ)) (by rw [q9.1, sN_64 Sτ]; exact jin_n (by omega) (by decide)) (by rw [q9.1]; exact sT_64 Sτ), q9.1, nI_clamp (by omega), c64]
  · have z := fun b (hb : b ∉ [64, 65, 66, 67, 68, 69]) i => (FX'.2 b hb).2 i
    have er : (chS s p r (newP s.W a x A pl)).rs.length = s.rs.length := List.length_set
    have epl : (chS s p r (newP s.W a x A pl)).ps.length = s.ps.length := List.length_set
    have I := (FX'.2 47 (by decide)).1
    have V64 : ∀ i, jA (jsA τ 64 r (a.ch + 1)) 64 i = if i = r then a.ch + 1 else jA σ 64 i := fun i => by
      rw [zA_A]
      by_cases e : i = r
      · rw [if_pos ⟨rfl, e⟩, if_pos e]
      · rw [if_neg (fun w => e w.2), if_neg e, (Fτ.2 64 (by decide)).2, ← e0, zA_A, if_neg (fun z => absurd z.1 (by decide)), (hMV.1.2 64 (by decide)).2]
    have W65 : ∀ i, jA (jsA τ 64 r (a.ch + 1)) 65 i = if i = p then nI (A.length + a.o2.length - a.o1.length) else jA σ 65 i := fun i => by
      rw [zA_A, if_neg (fun z => absurd z.1 (by decide)), (Fτ.2 65 (by decide)).2, V65]
    have W66 : ∀ j i, j < 4 → jA (jsA τ 64 r (a.ch + 1)) (66 + j) i = if 24 * p + pl ≤ i ∧ i < 24 * p + pl + a.o2.length then newO s.W x (a.o2.getD (i - (24 * p + pl)) (fun _ => 0)) j else if 24 * p + pl + a.o2.length ≤ i ∧ i < 24 * p + (A.length + a.o2.length - a.o1.length) then jA σ (66 + j) (i + a.o1.length - a.o2.length) else jA σ (66 + j) i := fun j i hj => by
      rw [zA_A, if_neg (fun z => by omega), Vτ j i hj]
      by_cases b : 24 * p + pl ≤ i ∧ i < 24 * p + pl + a.o2.length
      · rw [if_pos b, if_pos b]
      · rw [if_neg b, if_neg b, V0 j i hj]
    refine ⟨fun j hj => by rw [z 70 (by decide)]; exact hM.nv j hj, by rw [I, er]; exact hM.nr, by rw [I, epl]; exact hM.np, by rw [I]; exact hM.w, by rw [I]; exact hM.ap, ⟨by rw [I]; exact hM.tm.1, hM.tm.2.1, fun j hj => by rw [z 48 (by decide)]; exact hM.tm.2.2 j hj⟩, by rw [I]; exact hM.ns, fun j w hj hw' => by rw [z (78 + w) (by simp; omega)]; exact hM.tl j w hj hw', fun i hi => ?_, fun i hi => ?_⟩
    · rw [er] at hi
      show MRr _ i ((s.rs.set r (bmp (s.rs.getD r ar0))).getD i ar0)
      rw [set_rs hr]
      obtain ⟨⟨rg', mm⟩, n1, n2, n3, n4⟩ := hM.rs i hi
      have mm' := mm.frame FX' (fun b x y => by simp; omega)
      by_cases e : i = r
      · subst e
        rw [if_pos rfl]
        rw [ea] at mm' n1 n2 n3 n4 ⊢
        exact ⟨⟨rg', mm'⟩, by rw [z 60 (by decide)]; exact n1, by rw [z 61 (by decide)]; exact n2, by rw [z 63 (by decide)]; exact n3, by rw [V64, if_pos rfl]; rfl⟩
      · rw [if_neg e]
        exact ⟨⟨rg', mm'⟩, by rw [z 60 (by decide)]; exact n1, by rw [z 61 (by decide)]; exact n2, by rw [z 63 (by decide)]; exact n3, by rw [V64, if_neg e]; exact n4⟩
    · rw [epl] at hi
      show PM _ i ((s.ps.set p (newP s.W a x A pl)).getD i [])
      rw [set_ps hp]
      by_cases e : i = p
      · subst e
        rw [if_pos rfl]
        have ln := newP_len (W := s.W) (x := x) wc1
        refine ⟨by rw [W65, if_pos rfl, ln]; congr 1; omega, by rw [ln]; exact wc2, fun k j hk hj => ?_⟩
        rw [ln] at hk
        rw [newP_get wc1 hk, W66 j _ hj]
        by_cases b1 : k < pl
        · rw [if_neg (by omega), if_neg (by omega), if_pos b1]
          exact pa.2.2 k j (by omega) hj
        · rw [if_neg b1]
          by_cases b2 : k < pl + a.o2.length
          · rw [if_pos (by omega), if_pos b2, show 24 * i + k - (24 * i + pl) = k - pl by omega]
          · rw [if_neg (by omega), if_pos (by omega), if_neg b2, show 24 * i + k + a.o1.length - a.o2.length = 24 * i + (k - a.o2.length + a.o1.length) by omega]
            exact pa.2.2 _ j (by omega) hj
      · rw [if_neg e]
        obtain ⟨p1, p2, p3⟩ := hM.ps i hi
        refine ⟨by rw [W65, if_neg e]; exact p1, p2, fun k j hk hj => ?_⟩
        rw [W66 j _ hj, if_neg (by omega), if_neg (by omega)]
        exact p3 k j hk hj
end CH4
