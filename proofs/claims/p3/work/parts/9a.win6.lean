/-! windows: all that a rule names is settled; meant -/
theorem tkR_set {b b' : BN} {w v : Nat} (h : tkR b w v = some b') : b' w = some v ∧ ∀ i u, b i = some u → b' i = some u := by
  unfold tkR at h
  cases hw : b w with
  | some u =>
    rw [hw] at h
    have h : (if u = v then some b else none) = some b' := h
    split at h
    · rename_i e
      cases h
      exact ⟨by rw [hw, e], fun i u h => h⟩
    · cases h
  | none =>
    rw [hw] at h
    have h : (if hasV b v = true then none else some (upB b w v)) = some b' := h
    split at h
    · cases h
    · cases h
      refine ⟨if_pos rfl, fun i u hi => ?_⟩
      show (if i = w then some v else b i) = some u
      by_cases e : i = w
      · rw [e, hw] at hi; cases hi
      · rw [if_neg e]; exact hi
theorem tkM_set {b b' : BN} {w v : Nat} (h : tkM b w v = some b') : b' w = some v ∧ ∀ i u, b i = some u → b' i = some u := by
  unfold tkM at h
  cases hw : b w with
  | some u =>
    rw [hw] at h
    have h : (if u = v then some b else none) = some b' := h
    split at h
    · rename_i e
      cases h
      exact ⟨by rw [hw, e], fun i u h => h⟩
    · cases h
  | none =>
    rw [hw] at h
    cases h
    refine ⟨if_pos rfl, fun i u hi => ?_⟩
    show (if i = w then some v else b i) = some u
    by_cases e : i = w
    · rw [e, hw] at hi; cases hi
    · rw [if_neg e]; exact hi
theorem tkL_set {b : BN} {o p : Nat → Int32} : ∀ n b', tkL b o p n = some b' → (∀ i u, b i = some u → b' i = some u) ∧ ∀ j, j < n → ∃ u, b' (o (j + 1)).toNatClampNeg = some u := by
  intro n
  induction n with
  | zero => intro b' h; cases h; exact ⟨fun i u h => h, fun j hj => absurd hj (Nat.not_lt_zero j)⟩
  | succ n ih =>
    intro b' h
    obtain ⟨c, h1, h2⟩ := Option.bind_eq_some_iff.mp h
    obtain ⟨i1, i2⟩ := ih c h1
    obtain ⟨s1, s2⟩ := tkR_set h2
    refine ⟨fun i u hi => s2 i u (i1 i u hi), fun j hj => ?_⟩
    by_cases e : j = n
    · subst e; exact ⟨_, s1⟩
    · obtain ⟨u, hu⟩ := i2 j (by omega)
      exact ⟨u, s2 _ u hu⟩
theorem tkO_set {W : Nat} {x x' : BN × BN} {o p : Nat → Int32} (h : tkO W x o p = some x') : (∀ i u, x.1 i = some u → x'.1 i = some u) ∧ (∀ i u, x.2 i = some u → x'.2 i = some u) ∧ (∀ j, j < regN (opO o) → ∃ u, x'.1 (o (j + 1)).toNatClampNeg = some u) ∧ (numN (opO o) = true → ∀ m, m < 3 → o 2 = 16 + nI m → ∃ u, x'.2 m = some u) := by
  unfold tkO at h
  split at h
  · obtain ⟨b', h1, h2⟩ := Option.bind_eq_some_iff.mp h
    obtain ⟨l1, l2⟩ := tkL_set _ _ h1
    split at h2
    · rename_i hn
      obtain ⟨c', h3, h4⟩ := Option.map_eq_some_iff.mp h2
      subst h4
      unfold tkN at h3
      split at h3
      · rename_i h16
        obtain ⟨s1, s2⟩ := tkM_set h3
        refine ⟨l1, s2, l2, fun _ m hm e => ?_⟩
        rw [e, (i16n hm).2.2, nI_clamp (by omega)] at s1
        exact ⟨_, s1⟩
      · rename_i h16
        split at h3
        · cases h3
          exact ⟨l1, fun i u h => h, l2, fun _ m hm e => absurd (by rw [e]; exact (i16n hm).1) h16⟩
        · cases h3
    · rename_i hn
      cases h2
      exact ⟨l1, fun i u h => h, l2, fun q => absurd q hn⟩
  · cases h
theorem tkW_set {W pl : Nat} {os ps : List (Nat → Int32)} : ∀ n x, tkW W os ps pl n = some x → ∀ i, i < n → (∀ j, j < regN (opO (os.getD i (fun _ => 0))) → ∃ u, x.1 ((os.getD i (fun _ => 0)) (j + 1)).toNatClampNeg = some u) ∧ (numN (opO (os.getD i (fun _ => 0))) = true → ∀ m, m < 3 → (os.getD i (fun _ => 0)) 2 = 16 + nI m → ∃ u, x.2 m = some u) := by
  intro n
  induction n with
  | zero => intro x h i hi; exact absurd hi (Nat.not_lt_zero i)
  | succ n ih =>
    intro x h i hi
    obtain ⟨c, h1, h2⟩ := Option.bind_eq_some_iff.mp h
    obtain ⟨s1, s2, s3, s4⟩ := tkO_set h2
    by_cases e : i = n
    · subst e; exact ⟨s3, s4⟩
    · obtain ⟨i1, i2⟩ := ih c h1 i (by omega)
      refine ⟨fun j hj => ?_, fun hn m hm e => ?_⟩
      · obtain ⟨u, hu⟩ := i1 j hj
        exact ⟨u, s1 _ u hu⟩
      · obtain ⟨u, hu⟩ := i2 hn m hm e
        exact ⟨u, s2 _ u hu⟩
theorem mem_idx {os : List (Nat → Int32)} {o : Nat → Int32} (h : o ∈ os) : ∃ i, i < os.length ∧ os.getD i (fun _ => 0) = o := by
  obtain ⟨i, hi, e⟩ := List.mem_iff_getElem.mp h
  exact ⟨i, hi, by rw [List.getD_eq_getElem?_getD, List.getElem?_eq_getElem hi, ← e]; rfl⟩
theorem win_full {W m pl : Nat} {a : AR} (hf : WFr a) {ps : List (Nat → Int32)} {x : BN × BN} (h : winF W a.o1 m ps pl = some x) : (∀ k, k < a.nr → ∃ u, x.1 k = some u) ∧ (∀ k, k < a.nm → ∃ u, x.2 k = some u) := by
  unfold winF at h
  split at h
  · have nr4 := hf.nr4
    have nm3 := hf.nm3
    refine ⟨fun k hk => ?_, fun k hk => ?_⟩
    · obtain ⟨o, ho, j, hj, e⟩ := hf.oc.1 k hk
      obtain ⟨i, hi, ei⟩ := mem_idx ho
      obtain ⟨q, _⟩ := tkW_set _ _ h i hi
      rw [ei] at q
      obtain ⟨u, hu⟩ := q j hj
      rw [e, nI_clamp (by omega)] at hu
      exact ⟨u, hu⟩
    · obtain ⟨o, ho, hn, e⟩ := hf.oc.2 k hk
      obtain ⟨i, hi, ei⟩ := mem_idx ho
      obtain ⟨_, q⟩ := tkW_set _ _ h i hi
      rw [ei] at q
      exact q hn k (by omega) e
  · cases h
section WI6
variable {d : Nat} {σ : jS} {s : AS} {cr cp : Nat} {qr qp : Nat → Nat}
theorem cin01 {x : Int32} : jx d 123 0 [some (.long x.toInt64), none, some (.long 0), none, some (.long 1), none] [] σ = some (some (.int (if 0 ≤ x ∧ x ≤ 1 then 1 else 0)), σ) := c123 (b := 0) (c := 1)
theorem sim_meant (hR : REL s cr cp qr qp σ) (x y z so k : Int32) : SimR (d + 5) 102 184 [some (.int x), some (.int y), some (.int z), some (.int so), some (.int k), none, none, none] [some (.int x), some (.int y), some (.int z), some (.int so), some (.int k)] true σ := by
  have hR0 := hR
  obtain ⟨hS, hx, hs, hC, hM⟩ := hR
  have r8 : ∀ {υ : jS}, SH υ → (jR υ 580 16).getD 0 = 38 := fun h => by rw [sR_580_16 h]; rfl
  have n8 : ∀ {υ : jS}, SH υ → jR υ 580 16 ≠ none := fun h => by rw [sR_580_16 h]; exact fun z => nomatch z
  have R : ∀ {υ : jS} {g a : Nat}, jR υ g 47 = some a → (jR υ g 47).getD 0 = a ∧ jR υ g 47 ≠ none := fun h => by rw [h]; exact ⟨rfl, fun z => nomatch z⟩
  obtain ⟨P1, P2⟩ := cls_pl (d := d + 2) hS hs hC x y z
  by_cases h : PLc s x y z
  · obtain ⟨p, i, r, hp, hi, hr, ep, ei, er, a1, a2, a3⟩ := P1 h
    have l24 := (hs.fp _ (mem_ps hp)).1
    have hr24 := hs.r24
    have b1 : ∀ {υ : jS}, SH υ → CM s υ → jx (d + 4) 181 0 [some (.ref 47), some (.int x), some (.int y), some (.int z)] [] υ = some (some (.int 1), υ) := fun h1 h2 => c181y (d := d + 2) h1 hs h2 h
    have to28 : jx (d + 5) 102 0 [some (.ref 16), some (.int x), some (.int y), some (.int z), some (.int so), some (.int k), none, none, none] [] σ = jx (d + 5) 102 28 [some (.ref 16), some (.int x), some (.int y), some (.int z), some (.int so), some (.int k), some (.ref (qp p)), some (.ref (qr r)), none] [] σ := by
      rw [k102_0 (sT_16 hS), a1]
      simp only [Option.bind_some, Option.toList_some, List.cons_append, List.nil_append]
      rw [k102_5R (sT_16 hS), a2]
      simp only [Option.bind_some, Option.toList_some, List.cons_append, List.nil_append]
      rw [k102_12RR (hC.ps p hp).1.1, a3]
      simp only [Option.bind_some, Option.toList_some, List.cons_append, List.nil_append]
      rw [k102_25, if_neg (by decide)]
    have to18 : ∀ {υ : jS}, SH υ → CM s υ → jx (d + 5) 184 0 [some (.ref 47), some (.int x), some (.int y), some (.int z), some (.int so), some (.int k)] [] υ = (some (some (.int (if 0 ≤ so ∧ so ≤ 1 then 1 else 0)), υ) : jr).bind (fun z' => jx (d + 5) 184 18 [some (.ref 47), some (.int x), some (.int y), some (.int z), some (.int so), some (.int k)] (z'.1.toList ++ []) z'.2) := fun h1 h2 => by
      rw [k184_0 (sT_47 h1), b1 h1 h2]
      simp only [Option.bind_some, Option.toList_some, List.cons_append, List.nil_append]
      rw [k184_7, if_neg (by decide), k184_10, cin01]
      simp only [Option.bind_some, Option.toList_some, List.cons_append, List.nil_append]
    by_cases hso : 0 ≤ so ∧ so ≤ 1
    · have s0 : ¬ so < 0 := Int32.not_lt.mpr hso.1
      have es : so = 0 ∨ so = 1 := by
        have q := i32_nat (c := so) (n := 2) (by decide) s0 (by rw [Int32.not_le]; exact Int32.lt_of_le_of_lt hso.2 (by decide))
        have : so.toNatClampNeg = 0 ∨ so.toNatClampNeg = 1 := by omega
        rcases this with e | e
        · rw [e] at q; exact Or.inl q.1
        · rw [e] at q; exact Or.inr q.1
      obtain ⟨a, ea⟩ : ∃ a, s.rs.getD r ar0 = a := ⟨_, rfl⟩
      have cr' := hC.rs r hr
      have fr := hs.fr _ (mem_rs hr)
      rw [ea] at cr' fr
      have nr4 := fr.nr4
      have nm3 := fr.nm3
      obtain ⟨⟨tp, hU, hbig, g1, g2, e4, e5, e6, e0, htp⟩, -⟩ := cr'
      obtain ⟨N, eN⟩ : ∃ N, (if so = 0 then a.nr else a.nm) = N := ⟨_, rfl⟩
      have N4 : N ≤ 4 := by rw [← eN]; split <;> omega
      have to71 : jx (d + 5) 102 0 [some (.ref 16), some (.int x), some (.int y), some (.int z), some (.int so), some (.int k), none, none, none] [] σ = if k < 0 then jx (d + 5) 102 93 [some (.ref 16), some (.int x), some (.int y), some (.int z), some (.int so), some (.int k), some (.ref (qp p)), some (.ref (qr r)), some (.int (nI N))] [] σ else jx (d + 5) 102 71 [some (.ref 16), some (.int x), some (.int y), some (.int z), some (.int so), some (.int k), some (.ref (qp p)), some (.ref (qr r)), some (.int (nI N))] [] σ := by
        rw [to28, k102_28R, if_neg s0, k102_38, if_pos hso.2, k102_46]
        rcases es with e | e
        · rw [if_neg (fun q => q e), k102_51R hU.1, e4, ← eN, if_pos e]
        · have n0 : ¬ so = 0 := by rw [e]; decide
          rw [if_pos n0, k102_59R hU.1, e5, ← eN, if_neg n0]
      have eiS : (if 0 ≤ so ∧ so ≤ 1 then (1 : Int32) else 0) = 1 := if_pos hso
      have to30 : ∀ {υ υ' : jS} {v : Int32}, SH υ → CM s υ → jx (d + 4) 182 0 [some (.ref 47), some (.int x), some (.int y), some (.int z), none, none, none, none, none, none, none, none] [] υ = some (some (.int v), υ') → jx (d + 5) 184 0 [some (.ref 47), some (.int x), some (.int y), some (.int z), some (.int so), some (.int k)] [] υ = if v = 0 then jx (d + 5) 184 66 [some (.ref 47), some (.int x), some (.int y), some (.int z), some (.int so), some (.int k)] [] υ' else jx (d + 5) 184 33 [some (.ref 47), some (.int x), some (.int y), some (.int z), some (.int so), some (.int k)] [] υ' := fun h1 h2 h3 => by
        rw [to18 h1 h2, eiS]
        simp only [Option.bind_some, Option.toList_some, List.cons_append, List.nil_append]
        rw [k184_18, if_pos (by decide), k184_23 (sT_47 h1), h3]
        simp only [Option.bind_some, Option.toList_some, List.cons_append, List.nil_append]
        rw [k184_30]
      -- the range of k in the reference
      have to63 : ∀ {υ : jS}, SH υ → CM s υ → jx (d + 5) 184 33 [some (.ref 47), some (.int x), some (.int y), some (.int z), some (.int so), some (.int k)] [] υ = if (¬ k < 0 ∧ k < nI N) then jx (d + 5) 184 69 [some (.ref 47), some (.int x), some (.int y), some (.int z), some (.int so), some (.int k)] [] υ else some (some (.int (-4)), υ) := fun {υ} h1 h2 => by
        obtain ⟨⟨rg, m1, m2, m3, m4, m5, m6, m7, m8, m9, m10⟩, -⟩ := h2.rs r hr
        rw [ea] at m5 m6
        have t1 := R (sR_651_47 h1)
        have t2 := R (sR_652_47 h1)
        rw [k184_33]
        have fin : ∀ L, L = [some (.ref 47), some (.int x), some (.int y), some (.int z), some (.int so), some (.int k)] → (some (some (.int (if 0 ≤ k ∧ k ≤ nI N - 1 then 1 else 0)), υ) : jr).bind (fun z' => jx (d + 5) 184 63 L (z'.1.toList ++ []) z'.2) = if (¬ k < 0 ∧ k < nI N) then jx (d + 5) 184 69 [some (.ref 47), some (.int x), some (.int y), some (.int z), some (.int so), some (.int k)] [] υ else some (some (.int (-4)), υ) := fun L eL => by
          subst eL
          by_cases q : ¬ k < 0 ∧ k < nI N
          · rw [if_pos ((rng_iff (by omega)).mpr q), if_pos q]
            simp only [Option.bind_some, Option.toList_some, List.cons_append, List.nil_append]
            rw [k184_63, if_pos (by decide)]
          · rw [if_neg (fun w => q ((rng_iff (by omega)).mp w)), if_neg q]
            simp only [Option.bind_some, Option.toList_some, List.cons_append, List.nil_append]
            rw [k184_63, if_neg (fun w => w rfl), k184_66]
        rcases es with e | e
        · rw [if_neg (fun q => q e), er, k184_42 (sT_47 h1) t1.2 (by rw [t1.1]; exact Or.inl (sT_56 h1)) (by rw [t1.1, sN_56 h1]; exact jin_n (by omega) (by decide)), t1.1, nI_clamp (by omega), m5, show a.nr = N by rw [← eN, if_pos e], cin0, ← er]
          exact fin _ rfl
        · have n0 : ¬ so = 0 := by rw [e]; decide
          rw [if_pos n0, er, k184_51 (sT_47 h1) t2.2 (by rw [t2.1]; exact Or.inl (sT_57 h1)) (by rw [t2.1, sN_57 h1]; exact jin_n (by omega) (by decide)), t2.1, nI_clamp (by omega), m6, show a.nm = N by rw [← eN, if_neg n0], cin0, ← er]
          exact fin _ rfl
      by_cases hk0 : ¬ k < 0 ∧ k < nI N
      · have hk : inR k N := hk0
        obtain ⟨kk, hkk, ek⟩ := inR_nat (by omega) hk
        obtain ⟨σ1, e1, F1, w1⟩ := c97 (d := d) hS hs hC hp hr (pl := i) (by omega)
        have hS1 := F1.sh hS
        have hC1 : CX s cr cp qr qp σ1 := hC.scr F1 (by decide)
        have hM1 := hM.sm (F1.sm (fun a h1 h2 => by simp; omega))
        obtain ⟨σ2, e2, F2, w2⟩ := c182 (d := d + 2) hS1 hs hM1 hp hr (pl := i) (by omega)
        have hS2 := F2.sh hS1
        have hM2 := hM1.w7 hs F2
        have sc2 := F2.sc (fun a ha => by simp at ha; omega)
        have nx1 : jnx σ1 = jnx σ := F1.1.2.2.2.2.1
        have nx2 : jnx σ2 = jnx σ1 := F2.1.2.2.2.2.1
        have sl1 : jsl σ1 = jsl σ := F1.1.2.2.2.2.2
        have sl2 : jsl σ2 = jsl σ1 := F2.1.2.2.2.2.2
        have fin : ∀ v : Int32, jx (d + 5) 102 0 [some (.ref 16), some (.int x), some (.int y), some (.int z), some (.int so), some (.int k), none, none, none] [] σ = some (some (.int v), σ1) → jx (d + 5) 184 0 [some (.ref 47), some (.int x), some (.int y), some (.int z), some (.int so), some (.int k)] [] σ1 = some (some (.int v), σ2) → SimR (d + 5) 102 184 [some (.int x), some (.int y), some (.int z), some (.int so), some (.int k), none, none, none] [some (.int x), some (.int y), some (.int z), some (.int so), some (.int k)] true σ := fun v h1 h2 => ⟨v, v, σ1, σ2, s, cr, cp, qr, qp, h1, h2, ⟨hS2, by omega, hs, CX.sc (by omega) hC1 sc2, hM2⟩, by omega, by omega, (F1.low (by simp)).trans (sc2.low (by omega)), fun _ => rfl⟩
        rw [← ei, ← ep, ← er] at e2
        rw [← ei] at e1
        have to90 : ∀ v : Int32, (if (winF s.W (s.rs.getD r ar0).o1 (s.rs.getD r ar0).o2.length (s.ps.getD p []) i).isSome = true then (1 : Int32) else 0) = v → jx (d + 5) 102 0 [some (.ref 16), some (.int x), some (.int y), some (.int z), some (.int so), some (.int k), none, none, none] [] σ = if ¬ (v = 0) then jx (d + 5) 102 96 [some (.ref 16), some (.int x), some (.int y), some (.int z), some (.int so), some (.int k), some (.ref (qp p)), some (.ref (qr r)), some (.int (nI N))] [] σ1 else jx (d + 5) 102 93 [some (.ref 16), some (.int x), some (.int y), some (.int z), some (.int so), some (.int k), some (.ref (qp p)), some (.ref (qr r)), some (.int (nI N))] [] σ1 := fun v ev => by
          rw [to71, if_neg hk.1, k102_71, if_neg (by rw [Int32.not_le]; exact hk.2), k102_78RR (sT_16 hS) (n8 hS) (by rw [r8 hS]; exact sT_38 hS), r8 hS, e1, ev]
          simp only [Option.bind_some, Option.toList_some, List.cons_append, List.nil_append]
          rw [k102_90]
        cases hw : winF s.W (s.rs.getD r ar0).o1 (s.rs.getD r ar0).o2.length (s.ps.getD p []) i with
        | none =>
          rw [hw] at e2 to90
          refine fin (-4) ?_ ?_
          · rw [to90 0 rfl, if_neg (fun q => q rfl), k102_93]
          · rw [to30 hS1 hM1 e2, if_pos (by decide), k184_66]
        | some xx =>
          obtain ⟨rb1, ib, ic⟩ := w1 xx hw
          obtain ⟨rb2, _, _⟩ := w2 xx hw
          have full := win_full (a := a) fr (by rw [← ea]; exact hw)
          rw [hw] at e2 to90
          have e2 : jx (d + 4) 182 0 [some (.ref 47), some (.int x), some (.int y), some (.int z), none, none, none, none, none, none, none, none] [] σ1 = some (some (.int 1), σ2) := e2
          rcases es with e | e
          · have eN' : N = a.nr := by rw [← eN, if_pos e]
            obtain ⟨u, hu⟩ := full.1 kk (by omega)
            have v1 : jA σ1 39 kk = nI u := by rw [rb1.1 kk (by omega)]; unfold encB; rw [hu]
            have v2 : jA σ2 76 kk = nI u := by rw [rb2.1 kk (by omega)]; unfold encB; rw [hu]
            have rv : rgV (jA σ1 39) (nI kk) = nI u := by
              unfold rgV
              rw [if_neg (fun q => by
                rcases q with q | q
                · exact nn0 (by omega) q
                · exact nI_ge (b := 4) (by omega) (by omega) q), nI_clamp (by omega), v1]
            refine fin (nI u) ?_ ?_
            · rw [to90 1 rfl, if_pos (by decide), k102_96, if_neg (fun q => q e), k102_101 (sT_16 hS1) (n8 hS1) (by rw [r8 hS1]; exact sT_38 hS1), r8 hS1, c64 (BD38 hS1), ek, rv]
              simp only [Option.bind_some, Option.toList_some, List.cons_append, List.nil_append]
              rw [k102_110]
            · have t := R (sR_676_47 hS2)
              rw [to30 hS1 hM1 e2, if_neg (by decide), to63 hS2 hM2, if_pos hk0, k184_69, if_neg (fun q => q e), ek, k184_74 (sT_47 hS2) t.2 (by rw [t.1]; exact Or.inl (sT_76 hS2)) (by rw [t.1, sN_76 hS2]; exact jin_n (by omega) (by decide)), t.1, nI_clamp (by omega), v2]
          · have n0 : ¬ so = 0 := by rw [e]; decide
            have eN' : N = a.nm := by rw [← eN, if_neg n0]
            obtain ⟨u, hu⟩ := full.2 kk (by omega)
            have v1 : jA σ1 40 kk = nI u := by rw [rb1.2 kk (by omega)]; unfold encB; rw [hu]
            have v2 : jA σ2 77 kk = nI u := by rw [rb2.2 kk (by omega)]; unfold encB; rw [hu]
            have rv : nmV (jA σ1 40) (nI kk) = nI u := by
              unfold nmV
              rw [if_neg (fun q => by
                rcases q with q | q
                · exact nn0 (by omega) q
                · exact nI_ge (b := 3) (by omega) (by omega) q), nI_clamp (by omega), v1]
            refine fin (nI u) ?_ ?_
            · rw [to90 1 rfl, if_pos (by decide), k102_96, if_pos n0, k102_113 (sT_16 hS1) (n8 hS1) (by rw [r8 hS1]; exact sT_38 hS1), r8 hS1, c66 (BD38 hS1), ek, rv]
              simp only [Option.bind_some, Option.toList_some, List.cons_append, List.nil_append]
              rw [k102_122]
            · have t := R (sR_677_47 hS2)
              rw [to30 hS1 hM1 e2, if_neg (by decide), to63 hS2 hM2, if_pos hk0, k184_69, if_pos n0, ek, k184_84 (sT_47 hS2) t.2 (by rw [t.1]; exact Or.inl (sT_77 hS2)) (by rw [t.1, sN_77 hS2]; exact jin_n (by omega) (by decide)), t.1, nI_clamp (by omega), v2]
      · have hk : ¬ inR k N := hk0
        obtain ⟨σ2, e2, F2, w2⟩ := c182 (d := d + 2) hS hs hM hp hr (pl := i) (by omega)
        have hS2 := F2.sh hS
        have hM2 := hM.w7 hs F2
        have sc2 := F2.sc (fun a ha => by simp at ha; omega)
        have nx2 : jnx σ2 = jnx σ := F2.1.2.2.2.2.1
        have sl2 : jsl σ2 = jsl σ := F2.1.2.2.2.2.2
        rw [← ei, ← ep, ← er] at e2
        refine ⟨-4, -4, σ, σ2, s, cr, cp, qr, qp, ?_, ?_, ⟨hS2, by omega, hs, CX.sc (by omega) hC sc2, hM2⟩, by omega, by omega, sc2.low (by omega), fun _ => rfl⟩
        · show jx (d + 5) 102 0 [some (.ref 16), some (.int x), some (.int y), some (.int z), some (.int so), some (.int k), none, none, none] [] σ = _
          rw [to71]
          by_cases k0 : k < 0
          · rw [if_pos k0, k102_93]
          · rw [if_neg k0, k102_71, if_pos (by rw [← Int32.not_lt]; exact fun w => hk ⟨k0, w⟩), k102_93]
        · show jx (d + 5) 184 0 [some (.ref 47), some (.int x), some (.int y), some (.int z), some (.int so), some (.int k)] [] σ = _
          rw [to30 hS hM e2]
          cases (winF s.W (s.rs.getD r ar0).o1 (s.rs.getD r ar0).o2.length (s.ps.getD p []) i).isSome
          · rw [if_pos (by decide), k184_66]
          · rw [if_neg (by decide), to63 hS2 hM2, if_neg hk0]
    · refine SimR.read hR0 (a := -1) (a' := -1) ?_ ?_ (fun _ => rfl)
      · show jx (d + 5) 102 0 [some (.ref 16), some (.int x), some (.int y), some (.int z), some (.int so), some (.int k), none, none, none] [] σ = _
        rw [to28, k102_28R]
        by_cases s0 : so < 0
        · rw [if_pos s0, k102_44]
        · rw [if_neg s0, k102_38, if_neg (fun w => hso ⟨Int32.not_lt.mp s0, w⟩), k102_44]
      · have e : (if 0 ≤ so ∧ so ≤ 1 then (1 : Int32) else 0) = 0 := if_neg hso
        show jx (d + 5) 184 0 [some (.ref 47), some (.int x), some (.int y), some (.int z), some (.int so), some (.int k)] [] σ = _
        rw [to18 hS hM, e]
        simp only [Option.bind_some, Option.toList_some, List.cons_append, List.nil_append]
        rw [k184_18, if_neg (fun q => q rfl), k184_21]
  · have b1 := c181n (d := d + 2) hS hs hM h
    refine SimR.read hR0 (a := -1) (a' := -1) ?_ ?_ (fun _ => rfl)
    · rcases P2 h with ⟨a1, ⟨r, a2⟩ | a2⟩ | ⟨p, hp, a1, ⟨⟨r, a2⟩, a3⟩ | ⟨a2, a3 | a3⟩⟩
      · simp (decide := true) only [k102_0, k102_5R, k102_5N, k102_12RR, k102_12RN, k102_12NR, k102_12NN, k102_19R, k102_25, k102_28R, k102_28N, k102_33, k102_38, k102_44, k102_46, k102_51R, k102_59R, k102_71, k102_78RR, k102_78RN, k102_78NR, k102_78NN, k102_90, k102_93, k102_96, k102_101, k102_110, k102_113, k102_122, a1, a2, sT_1, sT_2, sT_3, sT_16, sT_17, sT_18, sT_19, sT_20, sT_21, sT_22, sT_23, sT_24, sT_25, sT_26, sT_27, sT_28, sT_29, sT_30, sT_31, sT_32, sT_33, sT_34, sT_35, sT_36, sT_37, sT_38, sT_39, sT_40, sT_41, sT_42, sT_43, sT_44, sT_45, sT_46, sT_47, sT_48, sT_49, sT_50, sT_51, sT_52, sT_53, sT_54, sT_55, sT_56, sT_57, sT_58, sT_59, sT_60, sT_61, sT_62, sT_63, sT_64, sT_65, sT_66, sT_67, sT_68, sT_69, sT_70, sT_71, sT_72, sT_73, sT_74, sT_75, sT_76, sT_77, sT_78, sT_79, sT_80, sN_1, sN_2, sN_19, sN_21, sN_23, sN_24, sN_26, sN_29, sN_31, sN_33, sN_35, sN_36, sN_37, sN_39, sN_40, sN_42, sN_44, sN_45, sN_46, sN_48, sN_49, sN_50, sN_51, sN_52, sN_53, sN_54, sN_55, sN_56, sN_57, sN_58, sN_59, sN_60, sN_61, sN_62, sN_63, sN_64, sN_65, sN_66, sN_67, sN_68, sN_69, sN_70, sN_71, sN_72, sN_73, sN_74, sN_75, sN_76, sN_77, sN_78, sN_79, sN_80, sR_0_34, sR_0_38, sR_1_34, sR_1_38, sR_64_20, sR_64_22, sR_128_25, sR_128_28, sR_194_17, sR_195_17, sR_196_17, sR_197_17, sR_258_30, sR_258_32, sR_258_41, sR_384_43, sR_448_18, sR_512_27, sR_513_27, sR_514_27, sR_515_27, sR_516_27, sR_576_16, sR_577_16, sR_578_16, sR_579_16, sR_580_16, sR_581_16, sR_582_16, sR_583_16, sR_584_16, sR_641_47, sR_643_47, sR_645_47, sR_646_47, sR_647_47, sR_648_47, sR_649_47, sR_650_47, sR_651_47, sR_652_47, sR_653_47, sR_654_47, sR_655_47, sR_656_47, sR_657_47, sR_658_47, sR_659_47, sR_661_47, sR_662_47, sR_663_47, sR_664_47, sR_665_47, sR_669_47, sR_670_47, sR_671_47, sR_672_47, sR_673_47, sR_674_47, sR_676_47, sR_677_47, sR_679_47, sR_680_47, sR_681_47, SH_I, SH_A, SH_G, SH_C, hS, Option.getD_some, ne_eq, reduceCtorEq, not_false_eq_true, not_true_eq_false, Option.bind_some, Option.toList_none, Option.toList_some, List.nil_append, List.cons_append, List.append_nil, ↓reduceIte, and_self, true_and, and_true, false_and, and_false, or_true, true_or, or_false, false_or, Nat.reduceEqDiff, Nat.reduceAdd, Int32.reduceMul, Int32.reduceAdd, Int32.reduceSub, Int32.reduceToNatClampNeg, Int32.reduceOfNat, Int32.reduceLT, Int32.reduceLE, va_rf]
      · simp (decide := true) only [k102_0, k102_5R, k102_5N, k102_12RR, k102_12RN, k102_12NR, k102_12NN, k102_19R, k102_25, k102_28R, k102_28N, k102_33, k102_38, k102_44, k102_46, k102_51R, k102_59R, k102_71, k102_78RR, k102_78RN, k102_78NR, k102_78NN, k102_90, k102_93, k102_96, k102_101, k102_110, k102_113, k102_122, a1, a2, sT_1, sT_2, sT_3, sT_16, sT_17, sT_18, sT_19, sT_20, sT_21, sT_22, sT_23, sT_24, sT_25, sT_26, sT_27, sT_28, sT_29, sT_30, sT_31, sT_32, sT_33, sT_34, sT_35, sT_36, sT_37, sT_38, sT_39, sT_40, sT_41, sT_42, sT_43, sT_44, sT_45, sT_46, sT_47, sT_48, sT_49, sT_50, sT_51, sT_52, sT_53, sT_54, sT_55, sT_56, sT_57, sT_58, sT_59, sT_60, sT_61, sT_62, sT_63, sT_64, sT_65, sT_66, sT_67, sT_68, sT_69, sT_70, sT_71, sT_72, sT_73, sT_74, sT_75, sT_76, sT_77, sT_78, sT_79, sT_80, sN_1, sN_2, sN_19, sN_21, sN_23, sN_24, sN_26, sN_29, sN_31, sN_33, sN_35, sN_36, sN_37, sN_39, sN_40, sN_42, sN_44, sN_45, sN_46, sN_48, sN_49, sN_50, sN_51, sN_52, sN_53, sN_54, sN_55, sN_56, sN_57, sN_58, sN_59, sN_60, sN_61, sN_62, sN_63, sN_64, sN_65, sN_66, sN_67, sN_68, sN_69, sN_70, sN_71, sN_72, sN_73, sN_74, sN_75, sN_76, sN_77, sN_78, sN_79, sN_80, sR_0_34, sR_0_38, sR_1_34, sR_1_38, sR_64_20, sR_64_22, sR_128_25, sR_128_28, sR_194_17, sR_195_17, sR_196_17, sR_197_17, sR_258_30, sR_258_32, sR_258_41, sR_384_43, sR_448_18, sR_512_27, sR_513_27, sR_514_27, sR_515_27, sR_516_27, sR_576_16, sR_577_16, sR_578_16, sR_579_16, sR_580_16, sR_581_16, sR_582_16, sR_583_16, sR_584_16, sR_641_47, sR_643_47, sR_645_47, sR_646_47, sR_647_47, sR_648_47, sR_649_47, sR_650_47, sR_651_47, sR_652_47, sR_653_47, sR_654_47, sR_655_47, sR_656_47, sR_657_47, sR_658_47, sR_659_47, sR_661_47, sR_662_47, sR_663_47, sR_664_47, sR_665_47, sR_669_47, sR_670_47, sR_671_47, sR_672_47, sR_673_47, sR_674_47, sR_676_47, sR_677_47, sR_679_47, sR_680_47, sR_681_47, SH_I, SH_A, SH_G, SH_C, hS, Option.getD_some, ne_eq, reduceCtorEq, not_false_eq_true, not_true_eq_false, Option.bind_some, Option.toList_none, Option.toList_some, List.nil_append, List.cons_append, List.append_nil, ↓reduceIte, and_self, true_and, and_true, false_and, and_false, or_true, true_or, or_false, false_or, Nat.reduceEqDiff, Nat.reduceAdd, Int32.reduceMul, Int32.reduceAdd, Int32.reduceSub, Int32.reduceToNatClampNeg, Int32.reduceOfNat, Int32.reduceLT, Int32.reduceLE, va_rf]
      · have t := (hC.ps p hp).1.1
        simp (decide := true) only [k102_0, k102_5R, k102_5N, k102_12RR, k102_12RN, k102_12NR, k102_12NN, k102_19R, k102_25, k102_28R, k102_28N, k102_33, k102_38, k102_44, k102_46, k102_51R, k102_59R, k102_71, k102_78RR, k102_78RN, k102_78NR, k102_78NN, k102_90, k102_93, k102_96, k102_101, k102_110, k102_113, k102_122, a1, a2, a3, t, sT_1, sT_2, sT_3, sT_16, sT_17, sT_18, sT_19, sT_20, sT_21, sT_22, sT_23, sT_24, sT_25, sT_26, sT_27, sT_28, sT_29, sT_30, sT_31, sT_32, sT_33, sT_34, sT_35, sT_36, sT_37, sT_38, sT_39, sT_40, sT_41, sT_42, sT_43, sT_44, sT_45, sT_46, sT_47, sT_48, sT_49, sT_50, sT_51, sT_52, sT_53, sT_54, sT_55, sT_56, sT_57, sT_58, sT_59, sT_60, sT_61, sT_62, sT_63, sT_64, sT_65, sT_66, sT_67, sT_68, sT_69, sT_70, sT_71, sT_72, sT_73, sT_74, sT_75, sT_76, sT_77, sT_78, sT_79, sT_80, sN_1, sN_2, sN_19, sN_21, sN_23, sN_24, sN_26, sN_29, sN_31, sN_33, sN_35, sN_36, sN_37, sN_39, sN_40, sN_42, sN_44, sN_45, sN_46, sN_48, sN_49, sN_50, sN_51, sN_52, sN_53, sN_54, sN_55, sN_56, sN_57, sN_58, sN_59, sN_60, sN_61, sN_62, sN_63, sN_64, sN_65, sN_66, sN_67, sN_68, sN_69, sN_70, sN_71, sN_72, sN_73, sN_74, sN_75, sN_76, sN_77, sN_78, sN_79, sN_80, sR_0_34, sR_0_38, sR_1_34, sR_1_38, sR_64_20, sR_64_22, sR_128_25, sR_128_28, sR_194_17, sR_195_17, sR_196_17, sR_197_17, sR_258_30, sR_258_32, sR_258_41, sR_384_43, sR_448_18, sR_512_27, sR_513_27, sR_514_27, sR_515_27, sR_516_27, sR_576_16, sR_577_16, sR_578_16, sR_579_16, sR_580_16, sR_581_16, sR_582_16, sR_583_16, sR_584_16, sR_641_47, sR_643_47, sR_645_47, sR_646_47, sR_647_47, sR_648_47, sR_649_47, sR_650_47, sR_651_47, sR_652_47, sR_653_47, sR_654_47, sR_655_47, sR_656_47, sR_657_47, sR_658_47, sR_659_47, sR_661_47, sR_662_47, sR_663_47, sR_664_47, sR_665_47, sR_669_47, sR_670_47, sR_671_47, sR_672_47, sR_673_47, sR_674_47, sR_676_47, sR_677_47, sR_679_47, sR_680_47, sR_681_47, SH_I, SH_A, SH_G, SH_C, hS, Option.getD_some, ne_eq, reduceCtorEq, not_false_eq_true, not_true_eq_false, Option.bind_some, Option.toList_none, Option.toList_some, List.nil_append, List.cons_append, List.append_nil, ↓reduceIte, and_self, true_and, and_true, false_and, and_false, or_true, true_or, or_false, false_or, Nat.reduceEqDiff, Nat.reduceAdd, Int32.reduceMul, Int32.reduceAdd, Int32.reduceSub, Int32.reduceToNatClampNeg, Int32.reduceOfNat, Int32.reduceLT, Int32.reduceLE, va_rf]
      · have t := (hC.ps p hp).1.1
        simp (decide := true) only [k102_0, k102_5R, k102_5N, k102_12RR, k102_12RN, k102_12NR, k102_12NN, k102_19R, k102_25, k102_28R, k102_28N, k102_33, k102_38, k102_44, k102_46, k102_51R, k102_59R, k102_71, k102_78RR, k102_78RN, k102_78NR, k102_78NN, k102_90, k102_93, k102_96, k102_101, k102_110, k102_113, k102_122, a1, a2, a3, t, sT_1, sT_2, sT_3, sT_16, sT_17, sT_18, sT_19, sT_20, sT_21, sT_22, sT_23, sT_24, sT_25, sT_26, sT_27, sT_28, sT_29, sT_30, sT_31, sT_32, sT_33, sT_34, sT_35, sT_36, sT_37, sT_38, sT_39, sT_40, sT_41, sT_42, sT_43, sT_44, sT_45, sT_46, sT_47, sT_48, sT_49, sT_50, sT_51, sT_52, sT_53, sT_54, sT_55, sT_56, sT_57, sT_58, sT_59, sT_60, sT_61, sT_62, sT_63, sT_64, sT_65, sT_66, sT_67, sT_68, sT_69, sT_70, sT_71, sT_72, sT_73, sT_74, sT_75, sT_76, sT_77, sT_78, sT_79, sT_80, sN_1, sN_2, sN_19, sN_21, sN_23, sN_24, sN_26, sN_29, sN_31, sN_33, sN_35, sN_36, sN_37, sN_39, sN_40, sN_42, sN_44, sN_45, sN_46, sN_48, sN_49, sN_50, sN_51, sN_52, sN_53, sN_54, sN_55, sN_56, sN_57, sN_58, sN_59, sN_60, sN_61, sN_62, sN_63, sN_64, sN_65, sN_66, sN_67, sN_68, sN_69, sN_70, sN_71, sN_72, sN_73, sN_74, sN_75, sN_76, sN_77, sN_78, sN_79, sN_80, sR_0_34, sR_0_38, sR_1_34, sR_1_38, sR_64_20, sR_64_22, sR_128_25, sR_128_28, sR_194_17, sR_195_17, sR_196_17, sR_197_17, sR_258_30, sR_258_32, sR_258_41, sR_384_43, sR_448_18, sR_512_27, sR_513_27, sR_514_27, sR_515_27, sR_516_27, sR_576_16, sR_577_16, sR_578_16, sR_579_16, sR_580_16, sR_581_16, sR_582_16, sR_583_16, sR_584_16, sR_641_47, sR_643_47, sR_645_47, sR_646_47, sR_647_47, sR_648_47, sR_649_47, sR_650_47, sR_651_47, sR_652_47, sR_653_47, sR_654_47, sR_655_47, sR_656_47, sR_657_47, sR_658_47, sR_659_47, sR_661_47, sR_662_47, sR_663_47, sR_664_47, sR_665_47, sR_669_47, sR_670_47, sR_671_47, sR_672_47, sR_673_47, sR_674_47, sR_676_47, sR_677_47, sR_679_47, sR_680_47, sR_681_47, SH_I, SH_A, SH_G, SH_C, hS, Option.getD_some, ne_eq, reduceCtorEq, not_false_eq_true, not_true_eq_false, Option.bind_some, Option.toList_none, Option.toList_some, List.nil_append, List.cons_append, List.append_nil, ↓reduceIte, and_self, true_and, and_true, false_and, and_false, or_true, true_or, or_false, false_or, Nat.reduceEqDiff, Nat.reduceAdd, Int32.reduceMul, Int32.reduceAdd, Int32.reduceSub, Int32.reduceToNatClampNeg, Int32.reduceOfNat, Int32.reduceLT, Int32.reduceLE, va_rf]
      · have t := (hC.ps p hp).1.1
        simp (decide := true) only [k102_0, k102_5R, k102_5N, k102_12RR, k102_12RN, k102_12NR, k102_12NN, k102_19R, k102_25, k102_28R, k102_28N, k102_33, k102_38, k102_44, k102_46, k102_51R, k102_59R, k102_71, k102_78RR, k102_78RN, k102_78NR, k102_78NN, k102_90, k102_93, k102_96, k102_101, k102_110, k102_113, k102_122, a1, a2, a3, t, sT_1, sT_2, sT_3, sT_16, sT_17, sT_18, sT_19, sT_20, sT_21, sT_22, sT_23, sT_24, sT_25, sT_26, sT_27, sT_28, sT_29, sT_30, sT_31, sT_32, sT_33, sT_34, sT_35, sT_36, sT_37, sT_38, sT_39, sT_40, sT_41, sT_42, sT_43, sT_44, sT_45, sT_46, sT_47, sT_48, sT_49, sT_50, sT_51, sT_52, sT_53, sT_54, sT_55, sT_56, sT_57, sT_58, sT_59, sT_60, sT_61, sT_62, sT_63, sT_64, sT_65, sT_66, sT_67, sT_68, sT_69, sT_70, sT_71, sT_72, sT_73, sT_74, sT_75, sT_76, sT_77, sT_78, sT_79, sT_80, sN_1, sN_2, sN_19, sN_21, sN_23, sN_24, sN_26, sN_29, sN_31, sN_33, sN_35, sN_36, sN_37, sN_39, sN_40, sN_42, sN_44, sN_45, sN_46, sN_48, sN_49, sN_50, sN_51, sN_52, sN_53, sN_54, sN_55, sN_56, sN_57, sN_58, sN_59, sN_60, sN_61, sN_62, sN_63, sN_64, sN_65, sN_66, sN_67, sN_68, sN_69, sN_70, sN_71, sN_72, sN_73, sN_74, sN_75, sN_76, sN_77, sN_78, sN_79, sN_80, sR_0_34, sR_0_38, sR_1_34, sR_1_38, sR_64_20, sR_64_22, sR_128_25, sR_128_28, sR_194_17, sR_195_17, sR_196_17, sR_197_17, sR_258_30, sR_258_32, sR_258_41, sR_384_43, sR_448_18, sR_512_27, sR_513_27, sR_514_27, sR_515_27, sR_516_27, sR_576_16, sR_577_16, sR_578_16, sR_579_16, sR_580_16, sR_581_16, sR_582_16, sR_583_16, sR_584_16, sR_641_47, sR_643_47, sR_645_47, sR_646_47, sR_647_47, sR_648_47, sR_649_47, sR_650_47, sR_651_47, sR_652_47, sR_653_47, sR_654_47, sR_655_47, sR_656_47, sR_657_47, sR_658_47, sR_659_47, sR_661_47, sR_662_47, sR_663_47, sR_664_47, sR_665_47, sR_669_47, sR_670_47, sR_671_47, sR_672_47, sR_673_47, sR_674_47, sR_676_47, sR_677_47, sR_679_47, sR_680_47, sR_681_47, SH_I, SH_A, SH_G, SH_C, hS, Option.getD_some, ne_eq, reduceCtorEq, not_false_eq_true, not_true_eq_false, Option.bind_some, Option.toList_none, Option.toList_some, List.nil_append, List.cons_append, List.append_nil, ↓reduceIte, and_self, true_and, and_true, false_and, and_false, or_true, true_or, or_false, false_or, Nat.reduceEqDiff, Nat.reduceAdd, Int32.reduceMul, Int32.reduceAdd, Int32.reduceSub, Int32.reduceToNatClampNeg, Int32.reduceOfNat, Int32.reduceLT, Int32.reduceLE, va_rf]
    · show jx (d + 5) 184 0 [some (.ref 47), some (.int x), some (.int y), some (.int z), some (.int so), some (.int k)] [] σ = _
      rw [k184_0 (sT_47 hS), b1]
      simp only [Option.bind_some, Option.toList_some, List.cons_append, List.nil_append]
      rw [k184_7, if_pos rfl, k184_21]
end WI6
