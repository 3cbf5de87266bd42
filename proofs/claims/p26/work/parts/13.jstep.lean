/-! one step, by its number -/
section JP
variable {D : jD} {M : Nat} {p : Program} {l : Launch} {e : Env} {R : Room} {s : State} {m : MethodId} {args : Array Value} {below : List Frame} {meth : Method} {c : Code} {Q : State → Prop} {n1 s1 pc n : Nat} {L : jL} {st : List Value} {σ : jS}
theorem jop25 {op : Nat} (h : op < 25) : op = 0 ∨ op = 1 ∨ op = 2 ∨ op = 3 ∨ op = 4 ∨ op = 5 ∨ op = 6 ∨ op = 7 ∨ op = 8 ∨ op = 9 ∨ op = 10 ∨ op = 11 ∨ op = 12 ∨ op = 13 ∨ op = 14 ∨ op = 15 ∨ op = 16 ∨ op = 17 ∨ op = 18 ∨ op = 19 ∨ op = 20 ∨ op = 21 ∨ op = 22 ∨ op = 23 ∨ op = 24 := by omega
theorem jop38 {op : Nat} (h1 : ¬ op < 25) (h : op < 38) : op = 25 ∨ op = 26 ∨ op = 27 ∨ op = 28 ∨ op = 29 ∨ op = 30 ∨ op = 31 ∨ op = 32 ∨ op = 33 ∨ op = 34 ∨ op = 35 ∨ op = 36 ∨ op = 37 := by omega
theorem jstep1 (C : jCtx D M p s m args meth c) {d op a b : Nat} {k : Int} (hop : op < 25) (h : jchk1 M pc op a b k n = true) {o : jO} (ho : jcmd1 d op a b k n L st σ = some o) (kk : ∀ q, o = .inl q → jK D M p l e R s m args below meth c Q n1 s1 q.1 q.2.1 q.2.2.1 q.2.2.2) : jK D M p l e R s m args below meth c Q n1 s1 pc L st σ := by
  rcases jop25 hop with rfl | rfl | rfl | rfl | rfl | rfl | rfl | rfl | rfl | rfl | rfl | rfl | rfl | rfl | rfl | rfl | rfl | rfl | rfl | rfl | rfl | rfl | rfl | rfl | rfl <;> simp (decide := true) only [jcmd1, reduceIte, jgo] at ho
  · cases ho; exact jo_const C h (kk _ rfl)
  · split at ho
    · rename_i x hx; cases ho; exact jo_iload C h hx (kk _ rfl)
    · cases ho
  · split at ho
    · rename_i x hx; cases ho; exact jo_aload C h hx (kk _ rfl)
    · rename_i hx; cases ho; exact jo_aloadN C h hx (kk _ rfl)
    · cases ho
  · split at ho
    · rename_i x hx; cases ho; exact jo_lload C h hx (kk _ rfl)
    · cases ho
  · split at ho
    · split at ho
      · rename_i hx; cases ho; exact jo_istore C h hx (kk _ rfl)
      · cases ho
    · cases ho
  · split at ho
    · split at ho
      · rename_i hx; cases ho; exact jo_astore C h hx (kk _ rfl)
      · cases ho
    · split at ho
      · rename_i hx; cases ho; exact jo_astoreN C h hx (kk _ rfl)
      · cases ho
    · cases ho
  · split at ho
    · split at ho
      · rename_i hx; cases ho; exact jo_lstore C h hx (kk _ rfl)
      · cases ho
    · cases ho
  · split at ho
    · rename_i x hx; cases ho; exact jo_iinc C h hx (kk _ rfl)
    · cases ho
  · split at ho
    · split at ho
      · cases ho
      · rename_i hx; cases ho; exact jo_bin C h hx (kk _ rfl)
    · cases ho
  · split at ho
    · cases ho; exact jo_ineg C h (kk _ rfl)
    · cases ho
  · split at ho
    · cases ho; exact jo_i2l C h (kk _ rfl)
    · cases ho
  · split at ho
    · cases ho; exact jo_l2i C h (kk _ rfl)
    · cases ho
  · cases ho; exact jo_lconst C h (kk _ rfl)
  · split at ho
    · cases ho; exact jo_lmul C h (kk _ rfl)
    · cases ho
  · split at ho
    · cases ho; exact jo_lcmp C h (kk _ rfl)
    · cases ho
  · split at ho
    · cases ho; exact jo_i2b C h (kk _ rfl)
    · cases ho
  · split at ho
    · split at ho
      · rename_i hx; cases ho; exact jo_dup C h hx (kk _ rfl)
      · cases ho
    · cases ho
  · split at ho
    · split at ho
      · rename_i hx; cases ho; exact jo_dup2 C h hx (kk _ rfl)
      · cases ho
    · cases ho
  · split at ho
    · split at ho
      · rename_i hx; cases ho; exact jo_pop C h hx (kk _ rfl)
      · cases ho
    · cases ho
  · split at ho
    · split at ho
      · rename_i hx; cases ho; exact jo_if C h (fun _ => kk _ rfl) (fun z => absurd hx z)
      · rename_i hx; cases ho; exact jo_if C h (fun z => absurd z hx) (fun _ => kk _ rfl)
    · cases ho
  · split at ho
    · split at ho
      · rename_i hx; cases ho; exact jo_icmp C h (fun _ => kk _ rfl) (fun z => absurd hx z)
      · rename_i hx; cases ho; exact jo_icmp C h (fun z => absurd z hx) (fun _ => kk _ rfl)
    · cases ho
  · cases ho; exact jo_goto C h (kk _ rfl)
  · split at ho
    · cases ho; exact jo_ifnullN C h (kk _ rfl)
    · cases ho; exact jo_ifnull C h (kk _ rfl)
    · cases ho
  · split at ho
    · cases ho; exact jo_ifnnN C h (kk _ rfl)
    · cases ho; exact jo_ifnn C h (kk _ rfl)
    · cases ho
  · cases ho; exact jo_null C h (kk _ rfl)
theorem jput_step (C : jCtx D M p s m args meth c) {op a b : Nat} {k : Int} (hop : op = 26 ∨ op = 27) (h : jchk2 M pc op a b k n = true) {o : jO} (ho : jput n a L st σ = some o) (kk : ∀ q, o = .inl q → jK D M p l e R s m args below meth c Q n1 s1 q.1 q.2.1 q.2.2.1 q.2.2.2) : jK D M p l e R s m args below meth c Q n1 s1 pc L st σ := by
  simp only [jput, jgo] at ho
  split at ho
  · split at ho
    · rename_i hx; cases ho; exact jo_putI C hop h hx (kk _ rfl)
    · cases ho
  · split at ho
    · rename_i x _ _ hx; cases ho; exact jo_putR (x := some x) C hop h hx (kk _ rfl)
    · cases ho
  · split at ho
    · rename_i hx; cases ho; exact jo_putR (x := none) C hop h hx (kk _ rfl)
    · cases ho
  · cases ho
theorem jstep2 (C : jCtx D M p s m args meth c) {d op a b : Nat} {k : Int} (h25 : ¬ op < 25) (hop : op < 38) (h : jchk2 M pc op a b k n = true) (hn1 : n1 ≤ jnx σ) (hs1 : s1 ≤ jsl σ) {o : jO} (ho : jcmd2 d op a b k n L st σ = some o) (hR : ∀ q, o = .inl q → jnx q.2.2.2 - n1 ≤ R.cells ∧ jsl q.2.2.2 - s1 ≤ R.slots) (kk : ∀ q, o = .inl q → jK D M p l e R s m args below meth c Q n1 s1 q.1 q.2.1 q.2.2.1 q.2.2.2) : jK D M p l e R s m args below meth c Q n1 s1 pc L st σ := by
  rcases jop38 h25 hop with rfl | rfl | rfl | rfl | rfl | rfl | rfl | rfl | rfl | rfl | rfl | rfl | rfl <;> simp (decide := true) only [jcmd2, reduceIte, jgo] at ho
  · split at ho
    · split at ho
      · rename_i hx; cases ho; exact jo_get C h hx (kk _ rfl)
      · cases ho
    · cases ho
  · exact jput_step C (Or.inl rfl) h ho kk
  · exact jput_step C (Or.inr rfl) h ho kk
  · split at ho
    · split at ho
      · rename_i hx
        split at ho
        · cases ho
        · rename_i hy; cases ho; exact jo_iald C h hx hy (kk _ rfl)
      · cases ho
    · cases ho
  · split at ho
    · split at ho
      · rename_i hx
        split at ho
        · cases ho
        · rename_i hy; cases ho; exact jo_iast C h hx hy (kk _ rfl)
      · cases ho
    · cases ho
  · split at ho
    · split at ho
      · rename_i hx
        split at ho
        · cases ho
        · rename_i hy; cases ho; exact jo_bald C h hx hy (kk _ rfl)
      · cases ho
    · cases ho
  · split at ho
    · split at ho
      · cases ho
      · rename_i hy
        split at ho
        · rename_i hx; cases ho; exact jo_bast C h hx hy (kk _ rfl)
        · split at ho
          · rename_i hx; cases ho; exact jo_zast C h hx hy (kk _ rfl)
          · cases ho
    · cases ho
  · split at ho
    · split at ho
      · rename_i hx
        split at ho
        · cases ho
        · rename_i hy; cases ho; exact jo_aald C h hx hy (kk _ rfl)
      · cases ho
    · cases ho
  · split at ho
    · split at ho
      · rename_i hx
        split at ho
        · cases ho
        · rename_i hy; cases ho; exact jo_aast C h hx hy (kk _ rfl)
      · cases ho
    · cases ho
  · split at ho
    · split at ho
      · rename_i hx; cases ho; exact jo_alen C h hx (kk _ rfl)
      · cases ho
    · cases ho
  · split at ho
    · rename_i r hc
      cases ho
      have h2 := hR _ rfl
      have e1 : jnx (jnO σ a r.2.2) = jnx σ + 1 := rfl
      have e2 : jsl (jnO σ a r.2.2) = jsl σ + r.2.2 := rfl
      simp only [e1, e2] at h2
      exact jo_new C h hc hn1 hs1 (by omega) (by omega) (kk _ rfl)
    · cases ho
  · split at ho
    · rename_i x _
      split at ho
      · cases ho
      · rename_i hx
        cases ho
        have h2 := hR _ rfl
        have e1 : jnx (jnA σ a x.toNatClampNeg) = jnx σ + 1 := rfl
        have e2 : jsl (jnA σ a x.toNatClampNeg) = jsl σ + x.toNatClampNeg := rfl
        simp only [e1, e2] at h2
        exact jo_newa C h hx hn1 hs1 (by omega) (by omega) (kk _ rfl)
    · cases ho
  · split at ho
    · rename_i x _
      split at ho
      · cases ho
      · rename_i hx
        cases ho
        have h2 := hR _ rfl
        have e1 : jnx (jnG σ a x.toNatClampNeg) = jnx σ + 1 := rfl
        have e2 : jsl (jnG σ a x.toNatClampNeg) = jsl σ + x.toNatClampNeg := rfl
        simp only [e1, e2] at h2
        exact jo_newq C h hx hn1 hs1 (by omega) (by omega) (kk _ rfl)
    · cases ho
/-! what is made only grows -/
theorem jcmd1_m {d op a b : Nat} {k : Int} (hop : op < 25) {q : Nat × jL × List Value × jS} (h : jcmd1 d op a b k n L st σ = some (.inl q)) : q.2.2.2 = σ := by
  rcases jop25 hop with rfl | rfl | rfl | rfl | rfl | rfl | rfl | rfl | rfl | rfl | rfl | rfl | rfl | rfl | rfl | rfl | rfl | rfl | rfl | rfl | rfl | rfl | rfl | rfl | rfl <;> simp (decide := true) only [jcmd1, reduceIte, jgo] at h <;> (repeat' (split at h)) <;> first | (cases h; rfl) | cases h
theorem jput_m {a : Nat} {q : Nat × jL × List Value × jS} (h : jput n a L st σ = some (.inl q)) : jnx q.2.2.2 = jnx σ ∧ jsl q.2.2.2 = jsl σ := by
  unfold jput at h
  repeat' (split at h)
  all_goals first | (simp only [jgo] at h; cases h; exact ⟨rfl, rfl⟩) | cases h
theorem jcmd2_m {d op a b : Nat} {k : Int} (h25 : ¬ op < 25) (hop : op < 38) {q : Nat × jL × List Value × jS} (h : jcmd2 d op a b k n L st σ = some (.inl q)) : jnx σ ≤ jnx q.2.2.2 ∧ jsl σ ≤ jsl q.2.2.2 := by
  rcases jop38 h25 hop with rfl | rfl | rfl | rfl | rfl | rfl | rfl | rfl | rfl | rfl | rfl | rfl | rfl <;> simp (decide := true) only [jcmd2, reduceIte, jgo] at h
  · (repeat' (split at h)) <;> first | (cases h; exact ⟨Nat.le_refl _, Nat.le_refl _⟩) | cases h
  · have h2 := jput_m h; exact ⟨Nat.le_of_eq h2.1.symm, Nat.le_of_eq h2.2.symm⟩
  · have h2 := jput_m h; exact ⟨Nat.le_of_eq h2.1.symm, Nat.le_of_eq h2.2.symm⟩
  all_goals (repeat' (split at h)) <;> first | (cases h; exact ⟨Nat.le_refl _, Nat.le_refl _⟩) | (cases h; exact ⟨Nat.le_succ _, Nat.le_add_right _ _⟩) | cases h
theorem jcall_m {a : Nat} {v : Bool} {q : Nat × jL × List Value × jS} (h : jcall a n v st σ = some (.inl q)) : False := by
  unfold jcall at h
  repeat' (split at h)
  all_goals cases h
theorem jop52 {op : Nat} (h1 : ¬ op < 38) : op = 38 ∨ op = 39 ∨ op = 40 ∨ op = 41 ∨ op = 42 ∨ op = 43 ∨ op = 44 ∨ op = 45 ∨ op = 46 ∨ op = 47 ∨ op = 48 ∨ op = 49 ∨ op = 50 ∨ op = 51 ∨ 51 < op := by omega
theorem jcmd3_big {d op a b : Nat} {k : Int} (h51 : 51 < op) : jcmd3 d op a b k n L st σ = none := by
  unfold jcmd3
  rw [if_neg (by omega), if_neg (by omega), if_neg (by omega), if_neg (by omega), if_neg (by omega), if_neg (by omega), if_neg (by omega), if_neg (by omega), if_neg (by omega), if_neg (by omega), if_neg (by omega), if_neg (by omega), if_neg (by omega), if_neg (by omega)]
theorem jcmd3_m {d op a b : Nat} {k : Int} (h38 : ¬ op < 38) {q : Nat × jL × List Value × jS} (h : jcmd3 d op a b k n L st σ = some (.inl q)) : q.2.2.2 = σ := by
  rcases jop52 h38 with rfl | rfl | rfl | rfl | rfl | rfl | rfl | rfl | rfl | rfl | rfl | rfl | rfl | rfl | h51
  case inr.inr.inr.inr.inr.inr.inr.inr.inr.inr.inr.inr.inr.inr => rw [jcmd3_big h51] at h; cases h
  all_goals simp (decide := true) only [jcmd3, reduceIte, jgo] at h
  all_goals first | exact (jcall_m h).elim | ((repeat' (split at h)) <;> first | (cases h; rfl) | cases h)
theorem jop64 {op : Nat} (h1 : ¬ op < 52) : op = 52 ∨ op = 53 ∨ op = 54 ∨ op = 55 ∨ op = 56 ∨ op = 57 ∨ op = 58 ∨ op = 59 ∨ op = 60 ∨ op = 61 ∨ op = 62 ∨ op = 63 ∨ 63 < op := by omega
theorem jcmd4_big {d op a b : Nat} {k : Int} (h63 : 63 < op) : jcmd4 d op a b k n L st σ = none := by
  unfold jcmd4
  rw [if_neg (by omega), if_neg (by omega), if_neg (by omega), if_neg (by omega), if_neg (by omega), if_neg (by omega), if_neg (by omega), if_neg (by omega), if_neg (by omega), if_neg (by omega), if_neg (by omega), if_neg (by omega)]
theorem jcmd4_m {d op a b : Nat} {k : Int} (h52 : ¬ op < 52) {q : Nat × jL × List Value × jS} (h : jcmd4 d op a b k n L st σ = some (.inl q)) : jnx σ ≤ jnx q.2.2.2 ∧ jsl σ ≤ jsl q.2.2.2 := by
  rcases jop64 h52 with rfl | rfl | rfl | rfl | rfl | rfl | rfl | rfl | rfl | rfl | rfl | rfl | h63
  case inr.inr.inr.inr.inr.inr.inr.inr.inr.inr.inr.inr => rw [jcmd4_big h63] at h; cases h
  all_goals simp (decide := true) only [jcmd4, reduceIte, jgo] at h
  all_goals (repeat' (split at h)) <;> first | (cases h; exact ⟨Nat.le_refl _, Nat.le_refl _⟩) | exact (jcall_m h).elim | cases h
theorem jcmd_m {d : Nat} {x : jE} {q : Nat × jL × List Value × jS} (h : jcmd d x L st σ = some (.inl q)) : jnx σ ≤ jnx q.2.2.2 ∧ jsl σ ≤ jsl q.2.2.2 := by
  unfold jcmd at h
  split at h
  · rename_i h25
    rw [jcmd1_m h25 h]; exact ⟨Nat.le_refl _, Nat.le_refl _⟩
  · rename_i h25
    split at h
    · rename_i h38
      exact jcmd2_m h25 h38 h
    · rename_i h38
      split at h
      · rw [jcmd3_m h38 h]; exact ⟨Nat.le_refl _, Nat.le_refl _⟩
      · rename_i h52
        exact jcmd4_m h52 h
theorem jrn_m (f : Nat) : ∀ (d M pc : Nat) (L : jL) (st : List Value) (σ : jS) (r : Option Value × jS), jrn f d M pc L st σ = some r → jnx σ ≤ jnx r.2 ∧ jsl σ ≤ jsl r.2 := by
  induction f with
  | zero => intro d M pc L st σ r h; cases h
  | succ f ih =>
    intro d M pc L st σ r h
    rw [jrn_s] at h
    rcases hc : jcmd d (jcode M pc) L st σ with _ | q | v | q
    · rw [hc] at h; cases h
    · rw [hc] at h
      have h1 := jcmd_m hc
      have h2 := ih _ _ _ _ _ _ _ h
      omega
    · rw [hc] at h
      cases h
      exact ⟨Nat.le_refl _, Nat.le_refl _⟩
    · rw [hc] at h
      cases d with
      | zero => cases h
      | succ d =>
        obtain ⟨z, h1, h2⟩ := Option.bind_eq_some_iff.mp h
        have g1 := ih _ _ _ _ _ _ _ h1
        have g2 := ih _ _ _ _ _ _ _ h2
        omega
end JP
