/-! program, whole -/
section SM8
variable {d : Nat} {σ : jS} {s : AS} {cr cp : Nat} {qr qp : Nat → Nat}
/-- the class has read into the free place n; what it kept is as it was -/
theorem CX.free {cp' : Nat} {qp' : Nat → Nat} {σ' : jS} {l : List Nat} (hC : CX s cr cp' qr qp' σ) (hc : s.ps.length < cp') (f : FR l σ σ') (hl : ∀ x, x ∈ l → x = qp' s.ps.length ∨ x = qp' s.ps.length + 1 ∨ (x ∈ rdl)) (h256 : jI σ' 256 (qp' s.ps.length) = jI σ 256 (qp' s.ps.length)) : CX s cr cp' qr qp' σ' := by
  have bq := hC.dj.p s.ps.length hc
  have nl : ∀ x, x < 81 → x ∉ rdl → x ∉ l := fun x h1 h2 z => by
    rcases hl x z with q | q | q
    · omega
    · omega
    · exact h2 q
  have rdb : ∀ x, x ∈ rdl → x < 81 := by decide
  have out : ∀ i, i < cp' → i ≠ s.ps.length → ∀ z, qp' i ≤ z → z < qp' i + 2 → z ∉ l := fun i hi hik z h1 h2 hz => by
    have := hC.dj.pp i s.ps.length hi hc hik
    have := hC.dj.p i hi
    rcases hl z hz with q | q | q
    · omega
    · omega
    · have := rdb z q; omega
  have outr : ∀ i, i < cr → ∀ z, qr i ≤ z → z < qr i + 7 → z ∉ l := fun i hi z h1 h2 hz => by
    have := hC.dj.rp i s.ps.length hi hc
    have := hC.dj.r i hi
    rcases hl z hz with q | q | q
    · omega
    · omega
    · have := rdb z q; omega
  have i16 := (f.2 16 (nl 16 (by decide) (by decide))).1
  refine hC.gen f (fun z hz => ?_) (by rw [i16]; exact hC.nr) (by rw [i16]; exact hC.np) (by rw [i16]; exact hC.w) (by rw [i16]; exact hC.ap) rfl rfl (by rw [(f.2 43 (nl 43 (by decide) (by decide))).1]; exact hC.ns) (fun j v hj hv => by rw [(f.2 44 (nl 44 (by decide) (by decide))).2]; exact hC.tl j v hj hv) ?_ ?_ ?_ hC.lr.1 hC.lp.1 (fun i hi => ?_) (fun i hi => ?_) (fun i hi => ?_) (fun i hi => ?_)
  · rcases hl z hz with q | q | q
    · exact Or.inr (by omega)
    · exact Or.inr (by omega)
    · exact Or.inl ((by decide : ∀ x, x ∈ rdl → x ∈ scr2) z q)
  · obtain ⟨n, w⟩ := hC.w1; exact ⟨n, w.frame f (nl 30 (by decide) (by decide))⟩
  · obtain ⟨n, w⟩ := hC.w2; exact ⟨n, w.frame f (nl 32 (by decide) (by decide))⟩
  · obtain ⟨n, w⟩ := hC.w3; exact ⟨n, w.frame f (nl 41 (by decide) (by decide))⟩
  · exact (hC.gr i hi).2.fr f (outr i hi _ (by omega) (by omega)) (outr i hi _ (by omega) (by omega))
  · by_cases e : i = s.ps.length
    · rw [e]; exact RS.fr256 (hC.gp _ hc).2 f h256
    · exact (hC.gp i hi).2.fr f (out i hi e _ (by omega) (by omega))
  · have := hC.lr.1
    exact (hC.rs i hi).fr f (outr i (by omega))
  · have := hC.lp.1
    exact (hC.ps i hi).frame f (out i (by omega) (by omega) _ (by omega) (by omega)) (out i (by omega) (by omega) _ (by omega) (by omega))
theorem mOrds_len {len W : Nat} {b : Nat → Int32} : ∀ (f n p : Nat) (os : List (Nat → Int32)), n ≤ 24 → mOrds len b W f n p = some os → n + os.length ≤ 24 := by
  intro f
  induction f with
  | zero => intro n p os _ h; cases h
  | succ f ih =>
    intro n p os hn h
    unfold mOrds at h
    obtain ⟨z, h1, h2⟩ := Option.bind_eq_some_iff.mp h
    have n24 : n < 24 := by
      unfold mOrd at h1
      obtain ⟨y, hy, _⟩ := Option.bind_eq_some_iff.mp h1
      have := (mName_ok hy).2.2.2
      have : n ≠ 24 := fun e => this (by rw [e]; rfl)
      omega
    split at h2
    · obtain ⟨w', h3, h4⟩ := Option.map_eq_some_iff.mp h2
      have := ih _ _ _ (by omega) h3
      subst h4
      show n + (w'.length + 1) ≤ 24
      omega
    · split at h2
      · cases h2; show n + 1 ≤ 24; omega
      · cases h2
theorem mProg_len {len W : Nat} {b : Nat → Int32} {os : List (Nat → Int32)} (h : mProg len b W = some os) : os.length ≤ 24 := by
  unfold mProg at h
  split at h
  · cases h; exact Nat.zero_le _
  · have := mOrds_len _ _ _ _ (by decide) h; omega
def sLen0 (s : AS) : AS := (s.W, 0, s.b, s.rs, s.ps, s.ns, s.tl, s.ap)
def sAdd (s : AS) (z : List (Nat → Int32)) : AS := (s.W, 0, s.b, s.rs, s.ps ++ [z], s.ns, s.tl, s.ap)
theorem sameC.trans {σ τ υ : jS} (h : sameC σ τ) (k : sameC τ υ) : sameC σ υ := ⟨Nat.le_trans h.1 k.1, fun a ha hb => by
  have x := h.2 a ha hb
  have y := k.2 a (Nat.lt_of_lt_of_le ha h.1) hb
  exact ⟨y.1.trans x.1, y.2.1.trans x.2.1, fun g => (y.2.2.1 g).trans (x.2.2.1 g), fun g => (y.2.2.2.1 g).trans (x.2.2.2.1 g), fun i => (y.2.2.2.2.1 i).trans (x.2.2.2.2.1 i), fun i => (y.2.2.2.2.2 i).trans (x.2.2.2.2.2 i)⟩⟩
theorem sameM.trans {σ τ υ : jS} (h : sameM σ τ) (k : sameM τ υ) : sameM σ υ := ⟨fun g => (k.1 g).trans (h.1 g), fun a i h1 h2 => (k.2 a i h1 h2).trans (h.2 a i h1 h2)⟩
/-- the reference's program() -/
theorem ref_program {α : jS} (hS : SH α) (hx : 81 ≤ jnx α) (hs : WFs s) (hM : CM s α) (hn : s.ps.length < 16) : ∃ β a', jx (d + 4) 158 0 [some (.ref 47)] [] α = some (some (.int a'), β) ∧ sameC α β ∧ SH β ∧ jnx β ≤ jnx α + 25 ∧ jsl β ≤ jsl α + 75 ∧ (match mProg s.len s.b s.W with | some os => ∀ z : List (Nat → Int32), z.length = os.length → (∀ i j, i < os.length → j < 4 → (z.getD i (fun _ => 0)) j = (os.getD i (fun _ => 0)) j) → CM (sAdd s z) β | none => CM (sLen0 s) β) := by
  obtain ⟨τ, eτ⟩ : ∃ τ, jsI α 667 47 0 = τ := ⟨_, rfl⟩
  have hMτ : CM s τ := by
    rw [← eτ]
    exact hM.I47 (by rw [zI_I, if_neg (by decide)]; exact hM.nr) (by rw [zI_I, if_neg (by decide)]; exact hM.np) (by rw [zI_I, if_neg (by decide)]; exact hM.w) (by rw [zI_I, if_neg (by decide)]; exact hM.ap) (by rw [TM_I (by decide)]; exact hM.tm) (by rw [zI_I, if_neg (by decide)]; exact hM.ns) hM.tl hM.rs hM.ps
  have hSτ : SH τ := by rw [← eτ, SH_I]; exact hS
  have nxτ : jnx τ = jnx α := by rw [← eτ]; rfl
  have slτ : jsl τ = jsl α := by rw [← eτ]; rfl
  have hxτ : 81 ≤ jnx τ := by omega
  have z0τ : jI τ 667 47 = 0 := by rw [← eτ, zI_I, if_pos ⟨rfl, rfl⟩]
  obtain ⟨β, e5, f5, nx5, sl5, r5⟩ := c159 (d := d) (W := s.W) (P := s.ps.length) hn hs.w hxτ hSτ hMτ.nv hMτ.tm z0τ hMτ.w
  have hSβ := f5.sh hxτ hSτ
  have hMβ : CM s β := hMτ.ar hs (fun g a b c => f5.f47 hxτ ⟨a, b, c⟩) (fun a i h1 h2 hp => f5.ar hxτ (by omega) i hp (by omega)) (fun a i hp => by
    unfold PP at hp
    unfold PSF
    omega)
  have scβ : sameC α β := (eτ ▸ i47sc 667 0 : sameC α τ).trans (f5.sc (fun a i hp => by unfold PP at hp; omega))
  have n16 : ¬ nI s.ps.length = 16 := by rw [show (16 : Int32) = nI 16 from rfl, n31eq (by omega) (by decide)]; omega
  have to25 : jx (d + 4) 158 0 [some (.ref 47)] [] α = if jI β 667 47 ≤ 0 then jx (d + 4) 158 45 [some (.ref 47)] [] (jsI β 642 47 0) else jx (d + 4) 158 37 [some (.ref 47)] [] (jsI β 642 47 0) := by
    rw [k158_0 (sT_47 hS), hM.np, if_pos n16, k158_12 (sT_47 hS), hM.np, eτ, e5]
    simp only [Option.bind_some, Option.toList_none, List.nil_append]
    rw [k158_25 (sT_47 hSβ)]
  have hS6 : SH (jsI β 642 47 0) := by rw [SH_I]; exact hSβ
  have sc6 : sameC α (jsI β 642 47 0) := scβ.trans (i47sc 642 0)
  have M6 : ∀ s' : AS, s'.W = s.W → s'.len = 0 → s'.rs = s.rs → s'.ps = s.ps → s'.ns = s.ns → s'.tl = s.tl → s'.ap = s.ap → CM s' (jsI β 642 47 0) := by
    intro s' h1 h2 h3 h4 h5 h6 h7
    exact hMβ.I47 (by rw [zI_I, if_neg (by decide), h3]; exact hMβ.nr) (by rw [zI_I, if_neg (by decide), h4]; exact hMβ.np) (by rw [zI_I, if_neg (by decide), h1]; exact hMβ.w) (by rw [zI_I, if_neg (by decide), h7]; exact hMβ.ap) ⟨by rw [zI_I, if_pos ⟨rfl, rfl⟩, h2]; rfl, by rw [h2]; exact Nat.zero_le _, fun i hi => by rw [h2] at hi; exact absurd hi (Nat.not_lt_zero i)⟩ (by rw [zI_I, if_neg (by decide), h5]; exact hMβ.ns) (by rw [h5, h6]; exact hMβ.tl) (by rw [h3]; exact hMβ.rs) (by rw [h4]; exact hMβ.ps)
  cases hP : mProg s.len s.b s.W with
  | none =>
    rw [hP] at r5
    have r5 : ¬ jI β 667 47 = 0 := r5
    have pos : 0 < jI β 667 47 := by
      rcases f5.1 with q | q
      · rw [z0τ] at q; exact absurd q r5
      · exact q
    refine ⟨jsI β 642 47 0, (-10) - jI (jsI β 642 47 0) 668 47, ?_, sc6, hS6, by show jnx β ≤ _; omega, by show jsl β ≤ _; omega, M6 (sLen0 s) rfl rfl rfl rfl rfl rfl rfl⟩
    rw [to25, if_neg (by rw [Int32.not_le]; exact pos), k158_37 (sT_47 hS6)]
  | some os =>
    rw [hP] at r5
    obtain ⟨q1, q2, q3, q4⟩ := r5
    have hM6 := M6 (sLen0 s) rfl rfl rfl rfl rfl rfl rfl
    have np6 : jI (jsI β 642 47 0) 660 47 = nI s.ps.length := hM6.np
    refine ⟨jsI (jsI β 642 47 0) 660 47 (nI (s.ps.length + 1)), jI (jsI (jsI β 642 47 0) 660 47 (nI (s.ps.length + 1))) 660 47 - 1, ?_, sc6.trans (i47sc 660 _), by rw [SH_I]; exact hS6, by show jnx β ≤ _; omega, by show jsl β ≤ _; omega, fun z hz hj => ?_⟩
    · have le : jI β 667 47 ≤ 0 := by rw [q3]; decide
      rw [to25, if_pos le, k158_45 (sT_47 hS6), np6, ← nI_succ]
    · have elen : (sAdd s z).ps.length = s.ps.length + 1 := by show (s.ps ++ [z]).length = _; rw [List.length_append]; rfl
      refine hM6.I47 (by rw [zI_I, if_neg (by decide)]; exact hM6.nr) (by rw [zI_I, if_pos ⟨rfl, rfl⟩, elen]) (by rw [zI_I, if_neg (by decide)]; exact hM6.w) (by rw [zI_I, if_neg (by decide)]; exact hM6.ap) (by rw [TM_I (by decide)]; exact hM6.tm) (by rw [zI_I, if_neg (by decide)]; exact hM6.ns) hM6.tl hM6.rs (fun i hi => ?_)
      rw [elen] at hi
      show PM _ i ((s.ps ++ [z]).getD i [])
      rw [app_ps hi]
      by_cases e : i = s.ps.length
      · rw [if_pos e, e]
        exact ⟨by rw [hz]; exact q1, by omega, fun k j hk hj' => by rw [hj k j (by omega) hj']; exact q4 k j (by omega) hj'⟩
      · rw [if_neg e]; exact hM6.ps i (by show i < s.ps.length; omega)
/-- the class's program() -/
theorem cls_program (hS : SH σ) (hx : 81 ≤ jnx σ) (hs : WFs s) (hC : CX s cr cp qr qp σ) (hn : s.ps.length < 16) (h24 : ∀ z, sProg s.len s.b s.W = some z → z.length ≤ 24) : ∃ σ' a cp' qp', jx (d + 8) 76 0 [some (.ref 16), none] [] σ = some (some (.int a), σ') ∧ SH σ' ∧ sameM σ σ' ∧ low σ σ' ∧ jnx σ ≤ jnx σ' ∧ jnx σ' ≤ jnx σ + 2 ∧ jsl σ' ≤ jsl σ + 147 ∧ (match sProg s.len s.b s.W with | some z => CX (sAdd s z) cr cp' qr qp' σ' | none => CX (sLen0 s) cr cp' qr qp' σ') := by
  obtain ⟨σ1, q, cp', qp', e1, hC1, eq, hc, w1, hS1, sm1, lo1, nx1, nx1', sl1⟩ := c77 (d := d + 5) hS hx hC hn
  have bq := hC1.dj.p s.ps.length hc
  rw [eq] at bq
  have nin : ∀ x, 81 ≤ x → x ∉ [1, 2, 17, 18, 19, 20, 21, 22, 23, 24] := fun x h => by simp; omega
  obtain ⟨σ2, e2, f2, g2, r2⟩ := c78 (d := d) (W := s.W) hS1 hC1.st hC1.tx (q := q) (a := q + 1) (by omega) (nin q (by omega)) (nin (q + 1) (by omega)) w1
  have hS2 := f2.sh hS1
  have hC2 : CX s cr cp' qr qp' σ2 := hC1.free hc f2 (fun x hx => by rw [eq]; simpa using hx) (by rw [eq]; exact g2 256 (by decide))
  obtain ⟨v, ev⟩ : ∃ v, jI σ2 192 17 = v := ⟨_, rfl⟩
  obtain ⟨σ3, eσ3⟩ : ∃ σ3, jsI σ2 449 18 0 = σ3 := ⟨_, rfl⟩
  obtain ⟨σ4, eσ4⟩ : ∃ σ4, jsI σ3 588 16 v = σ4 := ⟨_, rfl⟩
  have F3 : FR [18] σ2 σ3 := eσ3 ▸ (FR.refl _ σ2).I (by decide)
  have F4 : FR [16] σ3 σ4 := eσ4 ▸ (FR.refl _ σ3).I (by decide)
  have hS3 := F3.sh hS2
  have hS4 := F4.sh hS3
  have hC3 : CX (sLen0 s) cr cp' qr qp' σ3 := hC2.tape F3 (by simp) rfl rfl rfl rfl rfl rfl ⟨by rw [← eσ3, zI_I, if_pos ⟨rfl, rfl⟩]; rfl, Nat.zero_le _, fun i hi => absurd hi (Nat.not_lt_zero i)⟩
  have i4 : ∀ g, g ≠ 588 → jI σ4 g 16 = jI σ3 g 16 := fun g hg => by rw [← eσ4, zI_I, if_neg (fun z => hg z.1)]
  have hC4 : CX (sLen0 s) cr cp' qr qp' σ4 := hC3.fr F4 (by decide) (by rw [i4 585 (by decide)]; exact hC3.nr) (by rw [i4 586 (by decide)]; exact hC3.np) (by rw [i4 587 (by decide)]; exact hC3.w) (by rw [i4 589 (by decide)]; exact hC3.ap) rfl rfl rfl rfl hC3.lr.1 hC3.lp.1 hC3.rs hC3.ps
  have nx2 : jnx σ4 = jnx σ1 := by rw [F4.1.2.2.2.2.1, F3.1.2.2.2.2.1, f2.1.2.2.2.2.1]
  have sl2 : jsl σ4 = jsl σ1 := by rw [F4.1.2.2.2.2.2, F3.1.2.2.2.2.2, f2.1.2.2.2.2.2]
  have big : ∀ x : Nat, x ∈ (q :: (q + 1) :: rdl) → 16 ≤ x ∧ (x < 47 ∨ 80 < x) := fun x hx => by
    simp only [List.mem_cons] at hx
    rcases hx with h | h | h
    · rw [h]; exact ⟨by omega, Or.inr (by omega)⟩
    · rw [h]; exact ⟨by omega, Or.inr (by omega)⟩
    · exact (by decide : ∀ x : Nat, x ∈ rdl → 16 ≤ x ∧ (x < 47 ∨ 80 < x)) x h
  have smf : ∀ {l : List Nat} {α β : jS}, FR l α β → (∀ x : Nat, x ∈ l → 16 ≤ x ∧ (x < 47 ∨ 80 < x)) → sameM α β := fun f h => f.sm (fun a h1 h2 z => by have := h a z; omega)
  have sm4 : sameM σ σ4 := ((sm1.trans (smf f2 big)).trans (smf F3 (by simp))).trans (smf F4 (by simp))
  have lo4 : low σ σ4 := ((lo1.trans (f2.low (fun x hx => (big x hx).1))).trans (F3.low (by simp))).trans (F4.low (by simp))
  have r6 : ∀ {υ : jS}, SH υ → (jR υ 576 16).getD 0 = 17 := fun h => by rw [sR_576_16 h]; rfl
  have n6 : ∀ {υ : jS}, SH υ → jR υ 576 16 ≠ none := fun h => by rw [sR_576_16 h]; exact fun z => nomatch z
  have to4 : jx (d + 8) 76 0 [some (.ref 16), none] [] σ = if v = 0 then jx (d + 8) 76 66 [some (.ref 16), some (.ref q)] [] σ4 else jx (d + 8) 76 55 [some (.ref 16), some (.ref q)] [] σ4 := by
    have lt : nI s.ps.length < (16 : Int32) := by rw [show (16 : Int32) = nI 16 from rfl, n31 (by omega) (by decide)]; exact hn
    have r7 : ∀ {υ : jS}, SH υ → (jR υ 577 16).getD 0 = 18 := fun h => by rw [sR_577_16 h]; rfl
    have n7 : ∀ {υ : jS}, SH υ → jR υ 577 16 ≠ none := fun h => by rw [sR_577_16 h]; exact fun z => nomatch z
    have e588 : jI σ4 588 16 = v := by rw [← eσ4, zI_I, if_pos ⟨rfl, rfl⟩]
    rw [k76_0 (sT_16 hS), hC.np, if_pos lt, k76_12 (sT_16 hS), e1]
    simp only [Option.bind_some, Option.toList_some, List.cons_append, List.nil_append]
    rw [k76_16 (sT_16 hS1) (n6 hS1) (by rw [r6 hS1]; exact sT_17 hS1), r6 hS1, hC1.w, e2]
    simp only [Option.bind_some, Option.toList_none, List.nil_append]
    rw [k76_29 (sT_16 hS2) (n7 hS2) (by rw [r7 hS2]; exact sT_18 hS2) (n6 hS2) (by rw [r6 hS2]; exact sT_17 hS2), r7 hS2, r6 hS2, ev, eσ3, eσ4, e588]
  cases hP : sProg s.len s.b s.W with
  | none =>
    rw [hP] at r2
    have r2 : ¬ jI σ2 192 17 = 0 := r2
    rw [ev] at r2
    refine ⟨σ4, (-10) - jI σ4 193 17, cp', qp', ?_, hS4, sm4, lo4, by omega, by omega, by omega, hC4⟩
    rw [to4, if_neg r2, k76_55 (sT_16 hS4) (n6 hS4) (by rw [r6 hS4]; exact sT_17 hS4), r6 hS4]
  | some z =>
    rw [hP] at r2
    obtain ⟨r20, rc⟩ := r2
    rw [ev] at r20
    have np4 : jI σ4 586 16 = nI s.ps.length := hC4.np
    have F5 : FR [16] σ4 (jsI σ4 586 16 (nI (s.ps.length + 1))) := (FR.refl _ σ4).I (by decide)
    have elen : (sAdd s z).ps.length = s.ps.length + 1 := by show (s.ps ++ [z]).length = _; rw [List.length_append]; rfl
    have z24 := h24 z hP
    have roq : RO σ4 q (q + 1) 24 z := by
      have n18 : ∀ {l : List Nat}, (∀ x, x ∈ l → x < 81) → q ∉ l ∧ q + 1 ∉ l := fun h => ⟨fun w => by have := h _ w; omega, fun w => by have := h _ w; omega⟩
      have rs2 : RS σ2 q (q + 1) 24 := RS.fr256 w1.rs f2 (g2 256 (by decide))
      have rw2 : RW σ2 q (q + 1) 24 z.length := ⟨rs2.1, rs2.2.1, rs2.2.2.1, rs2.2.2.2.1, rs2.2.2.2.2.1, rc.1, z24, by decide⟩
      have ro2 : RO σ2 q (q + 1) 24 z := ⟨rw2, rc⟩
      exact (ro2.frame F3 (n18 (by simp)).1 (n18 (by simp)).2).frame F4 (n18 (by simp)).1 (n18 (by simp)).2
    refine ⟨jsI σ4 586 16 (nI (s.ps.length + 1)), jI (jsI σ4 586 16 (nI (s.ps.length + 1))) 586 16 - 1, cp', qp', ?_, by rw [SH_I]; exact hS4, sm4.trans (smf F5 (by simp)), lo4.trans (F5.low (by simp)), by show _ ≤ jnx σ4; omega, by show jnx σ4 ≤ _; omega, by show jsl σ4 ≤ _; omega, ?_⟩
    · rw [to4, if_pos r20, k76_66 (sT_16 hS4), np4, ← nI_succ]
    · refine hC4.fr F5 (by decide) (by rw [zI_I, if_neg (by decide)]; exact hC4.nr) (by rw [zI_I, if_pos ⟨rfl, rfl⟩, elen]) (by rw [zI_I, if_neg (by decide)]; exact hC4.w) (by rw [zI_I, if_neg (by decide)]; exact hC4.ap) rfl rfl rfl rfl hC4.lr.1 (by rw [elen]; omega) hC4.rs (fun i hi => ?_)
      rw [elen] at hi
      show RO _ _ _ _ ((s.ps ++ [z]).getD i [])
      rw [app_ps hi]
      by_cases e : i = s.ps.length
      · rw [if_pos e, e, eq]; exact roq
      · rw [if_neg e]; exact hC4.ps i (by show i < s.ps.length; omega)
theorem sim_program (hR : REL s cr cp qr qp σ) : SimR (d + 8) 76 158 [none] [] false σ := by
  have hR0 := hR
  obtain ⟨hS, hx, hs, hC, hM⟩ := hR
  have hl := hs.p16
  by_cases hn : s.ps.length < 16
  · have same := progs_same (len := s.len) (W := s.W) (b := s.b) hs.byy hs.w
    obtain ⟨σ1, a, cp', qp', e1, hS1, sm1, lo1, nx1, nx1', sl1, r1⟩ := cls_program (d := d) hS hx hs hC hn (fun z hz => by
      rw [hz] at same
      cases hP : mProg s.len s.b s.W with
      | none => rw [hP] at same; exact same.elim
      | some os => rw [hP] at same; rw [same.1]; exact mProg_len hP)
    have hM1 := hM.sm sm1
    obtain ⟨σ2, a', e2, sc2, hS2, nx2, sl2, r2⟩ := ref_program (d := d + 4) hS1 (by omega) hs hM1 hn
    have fin : ∀ s', WFs s' → CX s' cr cp' qr qp' σ1 → CM s' σ2 → SimR (d + 8) 76 158 [none] [] false σ := fun s' w c m => ⟨a, a', σ1, σ2, s', cr, cp', qr, qp', e1, e2, ⟨hS2, by have := sc2.1; omega, w, CX.sc (by omega) c sc2, m⟩, by omega, by omega, lo1.trans (sc2.low (by omega)), fun z => absurd z (by decide)⟩
    cases hP : sProg s.len s.b s.W with
    | none =>
      cases hQ : mProg s.len s.b s.W with
      | none =>
        rw [hP] at r1
        rw [hQ] at r2
        exact fin (sLen0 s) ⟨hs.w, Nat.zero_le _, fun i hi => absurd hi (Nat.not_lt_zero i), hs.r24, hs.p16, hs.fr, hs.fp, hs.n144⟩ r1 r2
      | some os => rw [hP, hQ] at same; exact same.elim
    | some z =>
      cases hQ : mProg s.len s.b s.W with
      | none => rw [hP, hQ] at same; exact same.elim
      | some os =>
        rw [hP] at r1
        rw [hQ] at r2
        rw [hP, hQ] at same
        have elen : (sAdd s z).ps.length = s.ps.length + 1 := by show (s.ps ++ [z]).length = _; rw [List.length_append]; rfl
        refine fin (sAdd s z) ⟨hs.w, Nat.zero_le _, fun i hi => absurd hi (Nat.not_lt_zero i), hs.r24, by rw [elen]; omega, hs.fr, fun p hp => ?_, hs.n144⟩ r1 (r2 z same.1 same.2)
        rcases List.mem_append.mp hp with q | q
        · exact hs.fp p q
        · rw [List.mem_singleton] at q
          rw [q]
          exact ⟨by rw [same.1]; exact mProg_len hQ, PWF_of same.1 same.2 (mProg_wf hs.w hQ)⟩
  · have e16 : s.ps.length = 16 := by omega
    refine SimR.read hR0 (a := -3) (a' := -3) ?_ ?_ (fun _ => rfl)
    · have lt : ¬ nI s.ps.length < (16 : Int32) := by rw [e16]; decide
      show jx (d + 8) 76 0 [some (.ref 16), none] [] σ = _
      rw [k76_0 (sT_16 hS), hC.np, if_neg lt, k76_9]
    · have q : nI s.ps.length = 16 := by rw [e16]; rfl
      show jx (d + 8) 158 0 [some (.ref 47)] [] σ = _
      rw [k158_0 (sT_47 hS), hM.np, if_neg (fun z => z q), k158_9]
end SM8
