/-! a run that never meets the script's cell runs just so beside it -/
def jX0 (N : Nat) (X : Nat → Int32) (τ : jS) : jS := (ju1 (jT τ) 0 60, ju1 (jN τ) 0 N, jI τ, jR τ, (fun a i => if a = 0 then X i else jA τ a i), jG τ, jnx τ, jsl τ)
theorem jσ0_eq (z : Option Nat) (N : Nat) (X : Nat → Int32) : jσ0 z N X = jX0 N X (jτ0 z) := rfl
def jOK (τ : jS) : Prop := jT τ 0 = 0 ∧ 0 < jnx τ
def jmo (N : Nat) (X : Nat → Int32) (o : jO) : jO := match o with
  | .inl q => .inl (q.1, q.2.1, q.2.2.1, jX0 N X q.2.2.2)
  | .inr z => .inr z
section JEX
variable {N : Nat} {X : Nat → Int32} {τ : jS}
theorem jX_T {q t : Nat} (h0 : jOK τ) (ht : jT τ q = t) (h : t ≠ 0) : q ≠ 0 ∧ jT (jX0 N X τ) q = t := by
  have hq : q ≠ 0 := fun z => h (by rw [← ht, z]; exact h0.1)
  refine ⟨hq, ?_⟩
  show (if q = 0 then 60 else jT τ q) = t
  rw [if_neg hq]; exact ht
theorem jX_Ta {q a b : Nat} (h0 : jOK τ) (hx : jT τ q = a ∨ jT τ q = b) (ha : a ≠ 0) (hb : b ≠ 0) : q ≠ 0 ∧ jT (jX0 N X τ) q = jT τ q := by
  rcases hx with h | h
  · rw [h]; exact jX_T h0 h ha
  · rw [h]; exact jX_T h0 h hb
theorem jX_Tl {q k : Nat} (h0 : jOK τ) (hx : k + 1 ≤ jT τ q) : q ≠ 0 ∧ jT (jX0 N X τ) q = jT τ q := jX_T h0 rfl (by omega)
theorem jX_Ts {x t : Nat} (h0 : jOK τ) (hx : jT τ x + 29 = t) (ht : 30 ≤ t) : x ≠ 0 ∧ jT (jX0 N X τ) x = jT τ x := jX_T h0 rfl (by omega)
theorem jX_N {q : Nat} (hq : q ≠ 0) : jN (jX0 N X τ) q = jN τ q := by show (if q = 0 then N else jN τ q) = _; rw [if_neg hq]
theorem jX_A {q : Nat} (hq : q ≠ 0) (i : Nat) : jA (jX0 N X τ) q i = jA τ q i := by show (if q = 0 then X i else jA τ q i) = _; rw [if_neg hq]
theorem jX_sA {q i : Nat} {x : Int32} (hq : q ≠ 0) : jsA (jX0 N X τ) q i x = jX0 N X (jsA τ q i x) := by
  have e : jA (jsA (jX0 N X τ) q i x) = jA (jX0 N X (jsA τ q i x)) := by
    funext a j
    show (if a = q ∧ j = i then x else (if a = 0 then X j else jA τ a j)) = (if a = 0 then X j else (if a = q ∧ j = i then x else jA τ a j))
    by_cases ha : a = 0
    · rw [if_neg (fun z => hq (z.1.symm.trans ha)), if_pos ha, if_pos ha]
    · rw [if_neg ha, if_neg ha]
  exact congrArg (fun (A : Nat → Nat → Int32) => ((jT (jX0 N X τ), jN (jX0 N X τ), jI τ, jR τ, A, jG τ, jnx τ, jsl τ) : jS)) e
theorem ju1_c {α : Type} (f : Nat → α) {a b : Nat} (h : a ≠ b) (v w : α) : ju1 (ju1 f a v) b w = ju1 (ju1 f b w) a v := by
  funext z
  unfold ju1
  by_cases h1 : z = a
  · rw [if_neg (fun q => h (h1.symm.trans q)), if_pos h1, if_pos h1]
  · by_cases h2 : z = b
    · rw [if_pos h2, if_neg h1, if_pos h2]
    · rw [if_neg h2, if_neg h1, if_neg h1, if_neg h2]
theorem jX_nO {a n : Nat} (h : jOK τ) : jnO (jX0 N X τ) a n = jX0 N X (jnO τ a n) := by
  have hn : (0 : Nat) ≠ jnx τ := Nat.ne_of_lt h.2
  exact congrArg (fun (T : Nat → Nat) => ((T, ju1 (jN τ) 0 N, jz2 (jI τ) (jnx τ) 0, jz2 (jR τ) (jnx τ) none, jA (jX0 N X τ), jG τ, jnx τ + 1, jsl τ + n) : jS)) (ju1_c (jT τ) hn 60 (1 + a))
theorem jX_nA {a n : Nat} (h : jOK τ) : jnA (jX0 N X τ) a n = jX0 N X (jnA τ a n) := by
  have hn : (0 : Nat) ≠ jnx τ := Nat.ne_of_lt h.2
  have e : jA (jnA (jX0 N X τ) a n) = jA (jX0 N X (jnA τ a n)) := by
    funext z j
    show (if z = jnx τ then 0 else (if z = 0 then X j else jA τ z j)) = (if z = 0 then X j else (if z = jnx τ then 0 else jA τ z j))
    by_cases h1 : z = 0
    · rw [if_neg (fun q => hn (h1.symm.trans q)), if_pos h1, if_pos h1]
    · rw [if_neg h1, if_neg h1]
  have e1 : ∀ (T T' U U' : Nat → Nat) (A A' : Nat → Nat → Int32), T = T' → U = U' → A = A' → ((T, U, jI τ, jR τ, A, jG τ, jnx τ + 1, jsl τ + n) : jS) = (T', U', jI τ, jR τ, A', jG τ, jnx τ + 1, jsl τ + n) := by
    intro T T' U U' A A' h1 h2 h3; rw [h1, h2, h3]
  exact e1 _ _ _ _ _ _ (ju1_c (jT τ) hn 60 (20 + a)) (ju1_c (jN τ) hn N n) e
theorem jX_nG {a n : Nat} (h : jOK τ) : jnG (jX0 N X τ) a n = jX0 N X (jnG τ a n) := by
  have hn : (0 : Nat) ≠ jnx τ := Nat.ne_of_lt h.2
  have e1 : ∀ (T T' U U' : Nat → Nat), T = T' → U = U' → ((T, U, jI τ, jR τ, jA (jX0 N X τ), jz1 (jG τ) (jnx τ) none, jnx τ + 1, jsl τ + n) : jS) = (T', U', jI τ, jR τ, jA (jX0 N X τ), jz1 (jG τ) (jnx τ) none, jnx τ + 1, jsl τ + n) := by
    intro T T' U U' h1 h2; rw [h1, h2]
  exact e1 _ _ _ _ (ju1_c (jT τ) hn 60 (30 + a)) (ju1_c (jN τ) hn N n)
theorem jOK_new {T : Nat → Nat} {v : Nat} (h : jOK τ) : ju1 (jT τ) (jnx τ) v 0 = 0 := by
  show (if 0 = jnx τ then v else jT τ 0) = 0
  rw [if_neg (Nat.ne_of_lt h.2)]; exact h.1
theorem jX_c1 {d op a b n : Nat} {k : Int} {L : jL} {st : List Value} {o : jO} (hop : op < 25) (h0 : jOK τ) (ho : jcmd1 d op a b k n L st τ = some o) : jcmd1 d op a b k n L st (jX0 N X τ) = some (jmo N X o) ∧ ∀ q, o = .inl q → jOK q.2.2.2 := by
  refine ⟨?_, ?_⟩
  · rcases jop25 hop with rfl | rfl | rfl | rfl | rfl | rfl | rfl | rfl | rfl | rfl | rfl | rfl | rfl | rfl | rfl | rfl | rfl | rfl | rfl | rfl | rfl | rfl | rfl | rfl | rfl <;> simp (decide := true) only [jcmd1, reduceIte, jgo] at ho ⊢ <;> (repeat' (split at ho)) <;> first | (cases ho; done) | (cases ho; rfl) | (cases ho; simp_all [jmo])
  · intro q hq
    subst hq
    rw [jcmd1_m hop ho]
    exact h0
theorem jX_put {a n : Nat} {L : jL} {st : List Value} {o : jO} (h0 : jOK τ) (ho : jput n a L st τ = some o) : jput n a L st (jX0 N X τ) = some (jmo N X o) ∧ ∀ q, o = .inl q → jOK q.2.2.2 := by
  unfold jput at ho ⊢
  split at ho
  · split at ho
    · rename_i hx
      cases ho
      have h1 := (jX_T (N := N) (X := X) h0 hx.1 (by omega)).2
      refine ⟨?_, fun q hq => by cases hq; exact h0⟩
      rw [if_pos ⟨h1, hx.2⟩]; rfl
    · cases ho
  · split at ho
    · rename_i hx
      cases ho
      have h1 := (jX_T (N := N) (X := X) h0 hx.1 (by omega)).2
      refine ⟨?_, fun q hq => by cases hq; exact h0⟩
      show (if _ then _ else _) = _
      rw [if_pos ⟨h1, hx.2⟩]; rfl
    · cases ho
  · split at ho
    · rename_i hx
      cases ho
      have h1 := (jX_T (N := N) (X := X) h0 hx.1 (by omega)).2
      refine ⟨?_, fun q hq => by cases hq; exact h0⟩
      show (if _ then _ else _) = _
      rw [if_pos ⟨h1, hx.2⟩]; rfl
    · cases ho
  · cases ho
theorem jX_c2 {d op a b n : Nat} {k : Int} {L : jL} {st : List Value} {o : jO} (h25 : ¬ op < 25) (hop : op < 38) (h0 : jOK τ) (ho : jcmd2 d op a b k n L st τ = some o) : jcmd2 d op a b k n L st (jX0 N X τ) = some (jmo N X o) ∧ ∀ q, o = .inl q → jOK q.2.2.2 := by
  rcases jop38 h25 hop with rfl | rfl | rfl | rfl | rfl | rfl | rfl | rfl | rfl | rfl | rfl | rfl | rfl <;> simp (decide := true) only [jcmd2, reduceIte, jgo] at ho ⊢
  · split at ho
    · split at ho
      · rename_i hx
        cases ho
        have h1 := (jX_T (N := N) (X := X) h0 hx (by omega)).2
        exact ⟨by rw [if_pos h1]; rfl, fun q hq => by cases hq; exact h0⟩
      · cases ho
    · cases ho
  · exact jX_put h0 ho
  · exact jX_put h0 ho
  · split at ho
    · split at ho
      · rename_i hx
        split at ho
        · cases ho
        · rename_i hy
          cases ho
          have h1 := jX_Ta (N := N) (X := X) h0 hx (by decide) (by decide)
          refine ⟨?_, fun q hq => by cases hq; exact h0⟩
          rw [h1.2, jX_N h1.1, if_pos hx, if_neg hy, jX_A h1.1]; rfl
      · cases ho
    · cases ho
  · split at ho
    · split at ho
      · rename_i hx
        split at ho
        · cases ho
        · rename_i hy
          cases ho
          have h1 := jX_T (N := N) (X := X) h0 hx (by decide)
          refine ⟨?_, fun q hq => by cases hq; exact h0⟩
          rw [if_pos h1.2, jX_N h1.1, if_neg hy, jX_sA h1.1]; rfl
      · cases ho
    · cases ho
  · split at ho
    · split at ho
      · rename_i hx
        split at ho
        · cases ho
        · rename_i hy
          cases ho
          have h1 := jX_Ta (N := N) (X := X) h0 hx (by decide) (by decide)
          refine ⟨?_, fun q hq => by cases hq; exact h0⟩
          rw [h1.2, jX_N h1.1, if_pos hx, if_neg hy, jX_A h1.1]; rfl
      · cases ho
    · cases ho
  · split at ho
    · split at ho
      · cases ho
      · rename_i hy
        split at ho
        · rename_i hx
          cases ho
          have h1 := jX_T (N := N) (X := X) h0 hx (by decide)
          refine ⟨?_, fun q hq => by cases hq; exact h0⟩
          rw [jX_N h1.1, if_neg hy, if_pos h1.2, jX_sA h1.1]; rfl
        · rename_i hx1
          split at ho
          · rename_i hx
            cases ho
            have h1 := jX_T (N := N) (X := X) h0 hx (by decide)
            refine ⟨?_, fun q hq => by cases hq; exact h0⟩
            rw [jX_N h1.1, if_neg hy, if_neg (by rw [h1.2]; decide), if_pos h1.2, jX_sA h1.1]; rfl
          · cases ho
    · cases ho
  · split at ho
    · split at ho
      · rename_i hx
        split at ho
        · cases ho
        · rename_i hy
          cases ho
          have h1 := jX_Tl (N := N) (X := X) h0 hx.1
          refine ⟨?_, fun q hq => by cases hq; exact h0⟩
          rw [h1.2, jX_N h1.1, if_pos hx, if_neg hy]; rfl
      · cases ho
    · cases ho
  · split at ho
    · split at ho
      · rename_i hx
        split at ho
        · cases ho
        · rename_i hy
          cases ho
          have h1 := jX_Tl (N := N) (X := X) h0 hx.1
          have h2 := jX_Ts (N := N) (X := X) h0 hx.2.2 hx.1
          refine ⟨?_, fun q hq => by cases hq; exact h0⟩
          rw [h1.2, h2.2, jX_N h1.1, if_pos hx, if_neg hy]; rfl
      · cases ho
    · cases ho
  · split at ho
    · split at ho
      · rename_i hx
        cases ho
        have h1 := jX_Tl (N := N) (X := X) h0 hx.1
        refine ⟨?_, fun q hq => by cases hq; exact h0⟩
        rw [h1.2, jX_N h1.1, if_pos hx]; rfl
      · cases ho
    · cases ho
  · split at ho
    · rename_i r hc
      cases ho
      refine ⟨?_, fun q hq => by cases hq; exact ⟨jOK_new (T := fun _ => 0) h0, Nat.succ_pos _⟩⟩
      rw [jX_nO h0]; rfl
    · cases ho
  · split at ho
    · split at ho
      · cases ho
      · rename_i hx
        cases ho
        refine ⟨?_, fun q hq => by cases hq; exact ⟨jOK_new (T := fun _ => 0) h0, Nat.succ_pos _⟩⟩
        rw [if_neg hx, jX_nA h0]; rfl
    · cases ho
  · split at ho
    · split at ho
      · cases ho
      · rename_i hx
        cases ho
        refine ⟨?_, fun q hq => by cases hq; exact ⟨jOK_new (T := fun _ => 0) h0, Nat.succ_pos _⟩⟩
        rw [if_neg hx, jX_nG h0]; rfl
    · cases ho
theorem jX_call {a n : Nat} {v : Bool} {st : List Value} {o : jO} (h0 : jOK τ) (ho : jcall a n v st τ = some o) : jcall a n v st (jX0 N X τ) = some (jmo N X o) ∧ ∀ q, o = .inl q → jOK q.2.2.2 := by
  refine ⟨?_, fun q hq => by subst hq; exact (jcall_m ho).elim⟩
  unfold jcall at ho ⊢
  split at ho
  · cases ho
  · rename_i h1
    rw [if_neg h1]
    split at ho
    · rename_i hv
      rw [if_pos hv]
      split at ho
      · rename_i b as hb
        split at ho
        · rename_i hT
          cases ho
          have h2 := (jX_T (N := N) (X := X) h0 hT (by omega)).2
          rw [if_pos h2]; rfl
        · cases ho
      · cases ho
    · rename_i hv
      rw [if_neg hv]
      cases ho
      rfl
theorem jX_c3 {d op a b n : Nat} {k : Int} {L : jL} {st : List Value} {o : jO} (h38 : ¬ op < 38) (h0 : jOK τ) (ho : jcmd3 d op a b k n L st τ = some o) : jcmd3 d op a b k n L st (jX0 N X τ) = some (jmo N X o) ∧ ∀ q, o = .inl q → jOK q.2.2.2 := by
  refine ⟨?_, fun q hq => by subst hq; rw [jcmd3_m h38 ho]; exact h0⟩
  rcases jop52 h38 with rfl | rfl | rfl | rfl | rfl | rfl | rfl | rfl | rfl | rfl | rfl | rfl | rfl | rfl | h51
  case inr.inr.inr.inr.inr.inr.inr.inr.inr.inr.inr.inr.inr.inr => rw [jcmd3_big h51] at ho; cases ho
  all_goals simp (decide := true) only [jcmd3, reduceIte, jgo] at ho ⊢
  all_goals first | exact (jX_call h0 ho).1 | ((repeat' (split at ho)) <;> first | (cases ho; done) | (cases ho; rfl) | (cases ho; simp_all [jmo]; done) | (cases ho; simp only [jmo]; split <;> simp_all))
theorem jX_3 {t : Nat} (h0 : jOK τ) (ht : jT τ 3 = t) (h : t ≠ 0) : jT (jX0 N X τ) 3 = t := (jX_T h0 ht h).2
theorem jX_cp {p sp q dp x : Nat} (hp : p ≠ 0) (hq : q ≠ 0) : jcp (jX0 N X τ) p sp q dp x = jX0 N X (jcp τ p sp q dp x) := by
  have e : jA (jcp (jX0 N X τ) p sp q dp x) = jA (jX0 N X (jcp τ p sp q dp x)) := by
    funext a j
    show (if a = q then va_cpy (fun i => if p = 0 then X i else jA τ p i) (fun i => if q = 0 then X i else jA τ q i) sp dp x j else (if a = 0 then X j else jA τ a j)) = (if a = 0 then X j else (if a = q then va_cpy (jA τ p) (jA τ q) sp dp x j else jA τ a j))
    by_cases ha : a = 0
    · rw [if_neg (fun z => hq (z.symm.trans ha)), if_pos ha, if_pos ha]
    · rw [if_neg ha, if_neg ha]
      by_cases hb : a = q
      · rw [if_pos hb, if_pos hb]
        simp only [if_neg hp, if_neg hq]
      · rw [if_neg hb, if_neg hb]
  exact congrArg (fun (A : Nat → Nat → Int32) => ((jT (jX0 N X τ), jN (jX0 N X τ), jI τ, jR τ, A, jG τ, jnx τ, jsl τ) : jS)) e
theorem jX_c4 {d op a b n : Nat} {k : Int} {L : jL} {st : List Value} {o : jO} (h52 : ¬ op < 52) (h0 : jOK τ) (ho : jcmd4 d op a b k n L st τ = some o) : jcmd4 d op a b k n L st (jX0 N X τ) = some (jmo N X o) ∧ ∀ q, o = .inl q → jOK q.2.2.2 := by
  rcases jop64 h52 with rfl | rfl | rfl | rfl | rfl | rfl | rfl | rfl | rfl | rfl | rfl | rfl | h63
  case inr.inr.inr.inr.inr.inr.inr.inr.inr.inr.inr.inr => rw [jcmd4_big h63] at ho; cases ho
  all_goals simp (decide := true) only [jcmd4, reduceIte, jgo] at ho ⊢
  · split at ho
    · rename_i hx; cases ho
      exact ⟨by rw [if_pos ⟨jX_3 h0 hx.1 (by decide), hx.2⟩]; rfl, fun q hq => by cases hq; exact h0⟩
    · cases ho
  · split at ho
    · rename_i hx; cases ho
      exact ⟨by rw [if_pos (jX_3 h0 hx (by decide))]; rfl, fun q hq => by cases hq; exact h0⟩
    · cases ho
  · split at ho
    · split at ho
      · rename_i hx
        refine ⟨?_, (jX_call (N := N) (X := X) h0 ho).2⟩
        rw [if_pos ⟨hx.1, jX_3 h0 hx.2 (by decide)⟩]
        exact (jX_call h0 ho).1
      · cases ho
    · cases ho
  · split at ho
    · rename_i hx; cases ho
      exact ⟨by rw [if_pos (jX_3 h0 hx (by decide))]; rfl, fun q hq => by cases hq; exact h0⟩
    · cases ho
  · split at ho
    · split at ho
      · rename_i hx
        cases ho
        have hp := jX_T (N := N) (X := X) h0 hx.1.1 (by decide)
        have hq := jX_T (N := N) (X := X) h0 hx.1.2 (by decide)
        refine ⟨?_, fun q hq => by cases hq; exact h0⟩
        rw [hp.2, hq.2, jX_N hp.1, jX_N hq.1, if_pos ⟨⟨rfl, rfl⟩, hx.2⟩, jX_cp hp.1 hq.1]; rfl
      · cases ho
    · cases ho
  · split at ho
    · split at ho
      · rename_i hx; cases ho
        exact ⟨by rw [if_pos ⟨hx.1, jX_3 h0 hx.2 (by decide)⟩]; rfl, fun q hq => by cases hq; exact h0⟩
      · cases ho
    · cases ho
  · split at ho
    · split at ho
      · rename_i hx; cases ho
        exact ⟨by rw [if_pos ⟨hx.1, jX_3 h0 hx.2 (by decide)⟩]; rfl, fun q hq => by cases hq; exact h0⟩
      · cases ho
    · cases ho
  · split at ho
    · rename_i hx; cases ho
      exact ⟨by rw [if_pos (jX_3 h0 hx (by decide))]; rfl, fun q hq => by cases hq; exact h0⟩
    · cases ho
  · split at ho
    · cases ho; exact ⟨rfl, fun q hq => by cases hq; exact h0⟩
    · cases ho
  · split at ho
    · split at ho
      · rename_i hx; cases ho
        exact ⟨by rw [if_pos hx]; rfl, fun q hq => by cases hq⟩
      · cases ho
    · cases ho
  · split at ho
    · split at ho
      · rename_i hx; cases ho
        exact ⟨by rw [if_pos ⟨⟨hx.1.1, jX_3 h0 hx.1.2 (by decide)⟩, hx.2⟩]; rfl, fun q hq => by cases hq; exact h0⟩
      · cases ho
    · cases ho
  · split at ho
    · split at ho
      · rename_i hx; cases ho
        exact ⟨by rw [if_pos ⟨hx.1, jX_3 h0 hx.2 (by decide)⟩]; rfl, fun q hq => by cases hq; exact h0⟩
      · cases ho
    · cases ho
theorem jX_cmd {d : Nat} {x : jE} {L : jL} {st : List Value} {o : jO} (h0 : jOK τ) (ho : jcmd d x L st τ = some o) : jcmd d x L st (jX0 N X τ) = some (jmo N X o) ∧ ∀ q, o = .inl q → jOK q.2.2.2 := by
  unfold jcmd at ho ⊢
  split at ho
  · rename_i h25
    rw [if_pos h25]; exact jX_c1 h25 h0 ho
  · rename_i h25
    rw [if_neg h25]
    split at ho
    · rename_i h38
      rw [if_pos h38]; exact jX_c2 h25 h38 h0 ho
    · rename_i h38
      rw [if_neg h38]
      split at ho
      · rename_i h52
        rw [if_pos h52]; exact jX_c3 h38 h0 ho
      · rename_i h52
        rw [if_neg h52]; exact jX_c4 h52 h0 ho
theorem jX_run (f : Nat) : ∀ (d M pc : Nat) (L : jL) (st : List Value) (τ : jS) (r : Option Value × jS), jOK τ → jrn f d M pc L st τ = some r → jrn f d M pc L st (jX0 N X τ) = some (r.1, jX0 N X r.2) ∧ jOK r.2 := by
  induction f with
  | zero => intro d M pc L st τ r h0 h; cases h
  | succ f ih =>
    intro d M pc L st τ r h0 h
    rw [jrn_s] at h ⊢
    rcases hc : jcmd d (jcode M pc) L st τ with _ | q | v | q
    · rw [hc] at h; cases h
    · rw [hc] at h
      obtain ⟨h1, h2⟩ := jX_cmd (N := N) (X := X) h0 hc
      rw [h1]
      exact ih _ _ _ _ _ _ _ (h2 q rfl) h
    · rw [hc] at h
      obtain ⟨h1, h2⟩ := jX_cmd (N := N) (X := X) h0 hc
      rw [h1]
      cases h
      exact ⟨rfl, h0⟩
    · rw [hc] at h
      obtain ⟨h1, h2⟩ := jX_cmd (N := N) (X := X) h0 hc
      rw [h1]
      cases d with
      | zero => cases h
      | succ d =>
        obtain ⟨z, g1, g2⟩ := Option.bind_eq_some_iff.mp h
        obtain ⟨k1, k2⟩ := ih _ _ _ _ _ _ _ h0 g1
        obtain ⟨k3, k4⟩ := ih _ _ _ _ _ _ _ k2 g2
        exact ⟨Option.bind_eq_some_iff.mpr ⟨_, k1, k3⟩, k4⟩
end JEX
