/-! the run's equations, an instruction each -/
theorem jx_go {d M pc n : Nat} {L L' : jL} {st st' : List Value} {σ σ' : jS} (h : jcmd d (jcode M pc) L st σ = jgo n L' st' σ') : jx d M pc L st σ = jx d M n L' st' σ' := by
  rw [jx_un, h]; rfl
theorem jx_ret {d M pc : Nat} {L : jL} {st : List Value} {σ : jS} {v : Option Value} (h : jcmd d (jcode M pc) L st σ = some (.inr (.inl v))) : jx d M pc L st σ = some (v, σ) := by
  rw [jx_un, h]; rfl
theorem jx_cl {d M pc n a : Nat} {L : jL} {st as rest : List Value} {σ : jS} (h : jcmd (d + 1) (jcode M pc) L st σ = some (.inr (.inr (a, as, n, rest)))) : jx (d + 1) M pc L st σ = (jx d a 0 (jent a as) [] σ).bind (fun z => jx (d + 1) M n L (z.1.toList ++ rest) z.2) := by
  rw [jx_un, h]; rfl
theorem jcmd_1 {d op a b n : Nat} {k : Int} {L : jL} {st : List Value} {σ : jS} (h : op < 25) : jcmd d (op, a, b, k, n) L st σ = jcmd1 d op a b k n L st σ := by unfold jcmd; rw [if_pos h]
theorem jcmd_2 {d op a b n : Nat} {k : Int} {L : jL} {st : List Value} {σ : jS} (h : ¬ op < 25) (h2 : op < 38) : jcmd d (op, a, b, k, n) L st σ = jcmd2 d op a b k n L st σ := by unfold jcmd; rw [if_neg h, if_pos h2]
theorem jcmd_3 {d op a b n : Nat} {k : Int} {L : jL} {st : List Value} {σ : jS} (h : ¬ op < 25) (h2 : ¬ op < 38) (h3 : op < 52) : jcmd d (op, a, b, k, n) L st σ = jcmd3 d op a b k n L st σ := by unfold jcmd; rw [if_neg h, if_neg h2, if_pos h3]
theorem jcmd_4 {d op a b n : Nat} {k : Int} {L : jL} {st : List Value} {σ : jS} (h : ¬ op < 25) (h2 : ¬ op < 38) (h3 : ¬ op < 52) : jcmd d (op, a, b, k, n) L st σ = jcmd4 d op a b k n L st σ := by unfold jcmd; rw [if_neg h, if_neg h2, if_neg h3]
section JXO
variable {d M pc n a b : Nat} {k : Int} {L : jL} {st : List Value} {σ : jS}
theorem jx_const (hc : jcode M pc = (0, a, b, k, n)) {v : Int32} (hv : Int32.ofInt k = v) : jx d M pc L st σ = jx d M n L (.int v :: st) σ := by subst hv; exact jx_go (by rw [hc]; rfl)
theorem jx_iload (hc : jcode M pc = (1, a, b, k, n)) {x : Int32} (hl : L[a]? = some (some (.int x))) : jx d M pc L st σ = jx d M n L (.int x :: st) σ := jx_go (by rw [hc]; rw [jcmd_1 (by decide)]; simp (decide := true) only [jcmd1, reduceIte, hl])
theorem jx_aload (hc : jcode M pc = (2, a, b, k, n)) {x : Nat} (hl : L[a]? = some (some (.ref x))) : jx d M pc L st σ = jx d M n L (.ref x :: st) σ := jx_go (by rw [hc]; rw [jcmd_1 (by decide)]; simp (decide := true) only [jcmd1, reduceIte, hl])
theorem jx_aloadN (hc : jcode M pc = (2, a, b, k, n)) (hl : L[a]? = some (some .null)) : jx d M pc L st σ = jx d M n L (.null :: st) σ := jx_go (by rw [hc]; rw [jcmd_1 (by decide)]; simp (decide := true) only [jcmd1, reduceIte, hl])
theorem jx_lload (hc : jcode M pc = (3, a, b, k, n)) {x : Int64} (hl : L[a]? = some (some (.long x))) : jx d M pc L st σ = jx d M n L (.long x :: st) σ := jx_go (by rw [hc]; rw [jcmd_1 (by decide)]; simp (decide := true) only [jcmd1, reduceIte, hl])
theorem jx_istore (hc : jcode M pc = (4, a, b, k, n)) {x : Int32} (hl : a < L.length) {L' : jL} (hL : jst1 L a (.int x) = L') : jx d M pc L (.int x :: st) σ = jx d M n L' st σ := by subst hL; exact jx_go (by rw [hc]; rw [jcmd_1 (by decide)]; simp (decide := true) only [jcmd1, reduceIte, if_pos hl])
theorem jx_astore (hc : jcode M pc = (5, a, b, k, n)) {x : Nat} (hl : a < L.length) {L' : jL} (hL : jst1 L a (.ref x) = L') : jx d M pc L (.ref x :: st) σ = jx d M n L' st σ := by subst hL; exact jx_go (by rw [hc]; rw [jcmd_1 (by decide)]; simp (decide := true) only [jcmd1, reduceIte, if_pos hl])
theorem jx_astoreN (hc : jcode M pc = (5, a, b, k, n)) (hl : a < L.length) {L' : jL} (hL : jst1 L a .null = L') : jx d M pc L (.null :: st) σ = jx d M n L' st σ := by subst hL; exact jx_go (by rw [hc]; rw [jcmd_1 (by decide)]; simp (decide := true) only [jcmd1, reduceIte, if_pos hl])
theorem jx_lstore (hc : jcode M pc = (6, a, b, k, n)) {x : Int64} (hl : a + 1 < L.length) {L' : jL} (hL : jst2 L a (.long x) = L') : jx d M pc L (.long x :: st) σ = jx d M n L' st σ := by subst hL; exact jx_go (by rw [hc]; rw [jcmd_1 (by decide)]; simp (decide := true) only [jcmd1, reduceIte, if_pos hl])
theorem jx_iinc (hc : jcode M pc = (7, a, b, k, n)) {x v : Int32} (hl : L[a]? = some (some (.int x))) (hv : Int32.ofInt k = v) {L' : jL} (hL : jst1 L a (.int (x + v)) = L') : jx d M pc L st σ = jx d M n L' st σ := by subst hL; subst hv; exact jx_go (by rw [hc]; rw [jcmd_1 (by decide)]; simp (decide := true) only [jcmd1, reduceIte, hl])
theorem jx_bin (hc : jcode M pc = (8, a, b, k, n)) (ha : a < 8) {x y : Int32} : jx d M pc L (.int y :: .int x :: st) σ = jx d M n L (.int (jbin a x y) :: st) σ := jx_go (by rw [hc]; rw [jcmd_1 (by decide)]; simp (decide := true) only [jcmd1, reduceIte]; rw [if_neg (fun q => by omega)])
theorem jx_div (hc : jcode M pc = (8, 8, b, k, n)) {x y : Int32} (hy : ¬ y = 0) : jx d M pc L (.int y :: .int x :: st) σ = jx d M n L (.int (x / y) :: st) σ := jx_go (by rw [hc]; rw [jcmd_1 (by decide)]; simp (decide := true) only [jcmd1, reduceIte]; rw [if_neg (fun q => hy q.2)]; rfl)
theorem jx_rem (hc : jcode M pc = (8, 9, b, k, n)) {x y : Int32} (hy : ¬ y = 0) : jx d M pc L (.int y :: .int x :: st) σ = jx d M n L (.int (x - x / y * y) :: st) σ := jx_go (by rw [hc]; rw [jcmd_1 (by decide)]; simp (decide := true) only [jcmd1, reduceIte]; rw [if_neg (fun q => hy q.2)]; rfl)
theorem jx_ineg (hc : jcode M pc = (9, a, b, k, n)) {x : Int32} : jx d M pc L (.int x :: st) σ = jx d M n L (.int (-x) :: st) σ := jx_go (by rw [hc]; rfl)
theorem jx_i2l (hc : jcode M pc = (10, a, b, k, n)) {x : Int32} : jx d M pc L (.int x :: st) σ = jx d M n L (.long x.toInt64 :: st) σ := jx_go (by rw [hc]; rfl)
theorem jx_l2i (hc : jcode M pc = (11, a, b, k, n)) {x : Int64} : jx d M pc L (.long x :: st) σ = jx d M n L (.int x.toInt32 :: st) σ := jx_go (by rw [hc]; rfl)
theorem jx_lconst (hc : jcode M pc = (12, a, b, k, n)) {v : Int64} (hv : Int64.ofInt k = v) : jx d M pc L st σ = jx d M n L (.long v :: st) σ := by subst hv; exact jx_go (by rw [hc]; rfl)
theorem jx_lmul (hc : jcode M pc = (13, a, b, k, n)) {x y : Int64} : jx d M pc L (.long y :: .long x :: st) σ = jx d M n L (.long (x * y) :: st) σ := jx_go (by rw [hc]; rfl)
theorem jx_lcmp (hc : jcode M pc = (14, a, b, k, n)) {x y : Int64} : jx d M pc L (.long y :: .long x :: st) σ = jx d M n L (.int (lg_cmp x y) :: st) σ := jx_go (by rw [hc]; rfl)
theorem jx_i2b (hc : jcode M pc = (15, a, b, k, n)) {x : Int32} : jx d M pc L (.int x :: st) σ = jx d M n L (.int x.toInt8.toInt32 :: st) σ := jx_go (by rw [hc]; rfl)
theorem jx_dup (hc : jcode M pc = (16, a, b, k, n)) {v : Value} (hv : v.category = 1) : jx d M pc L (v :: st) σ = jx d M n L (v :: v :: st) σ := jx_go (by rw [hc]; rw [jcmd_1 (by decide)]; simp (decide := true) only [jcmd1, reduceIte]; rw [if_pos hv])
theorem jx_dup2 (hc : jcode M pc = (17, a, b, k, n)) {v w : Value} (hv : v.category = 1 ∧ w.category = 1) : jx d M pc L (v :: w :: st) σ = jx d M n L (v :: w :: v :: w :: st) σ := jx_go (by rw [hc]; rw [jcmd_1 (by decide)]; simp (decide := true) only [jcmd1, reduceIte]; rw [if_pos hv])
theorem jx_pop (hc : jcode M pc = (18, a, b, k, n)) {v : Value} (hv : v.category = 1) : jx d M pc L (v :: st) σ = jx d M n L st σ := jx_go (by rw [hc]; rw [jcmd_1 (by decide)]; simp (decide := true) only [jcmd1, reduceIte]; rw [if_pos hv])
theorem jx_if0 (hc : jcode M pc = (19, a, b, k, n)) {x : Int32} : jx d M pc L (.int x :: st) σ = if jcnb a x 0 = true then jx d M b L st σ else jx d M n L st σ := by
  by_cases h : jcnb a x 0 = true
  · rw [if_pos h]; exact jx_go (by rw [hc]; rw [jcmd_1 (by decide)]; simp (decide := true) only [jcmd1, reduceIte, if_pos h])
  · rw [if_neg h]; exact jx_go (by rw [hc]; rw [jcmd_1 (by decide)]; simp (decide := true) only [jcmd1, reduceIte, if_neg h])
theorem jx_if2 (hc : jcode M pc = (20, a, b, k, n)) {x y : Int32} : jx d M pc L (.int y :: .int x :: st) σ = if jcnb a x y = true then jx d M b L st σ else jx d M n L st σ := by
  by_cases h : jcnb a x y = true
  · rw [if_pos h]; exact jx_go (by rw [hc]; rw [jcmd_1 (by decide)]; simp (decide := true) only [jcmd1, reduceIte, if_pos h])
  · rw [if_neg h]; exact jx_go (by rw [hc]; rw [jcmd_1 (by decide)]; simp (decide := true) only [jcmd1, reduceIte, if_neg h])
theorem jcnb0 (x y : Int32) : (jcnb 0 x y = true) = (x = y) := by simp [jcnb]
theorem jcnb1 (x y : Int32) : (jcnb 1 x y = true) = ¬ (x = y) := by simp [jcnb]
theorem jcnb2 (x y : Int32) : (jcnb 2 x y = true) = (x < y) := by simp [jcnb]
theorem jcnb3 (x y : Int32) : (jcnb 3 x y = true) = (y ≤ x) := by simp [jcnb]
theorem jcnb4 (x y : Int32) : (jcnb 4 x y = true) = (y < x) := by simp [jcnb]
theorem jcnb5 (x y : Int32) : (jcnb 5 x y = true) = (x ≤ y) := by simp [jcnb]
theorem jite {p q : Prop} [Decidable p] [Decidable q] {α : Type} {a b : α} (h : p = q) : (if p then a else b) = (if q then a else b) := by
  by_cases hp : p
  · rw [if_pos hp, if_pos (h ▸ hp)]
  · rw [if_neg hp, if_neg (fun z => hp (h ▸ z))]
theorem jx_ifeq (hc : jcode M pc = (19, 0, b, k, n)) {x : Int32} : jx d M pc L (.int x :: st) σ = if x = 0 then jx d M b L st σ else jx d M n L st σ := (jx_if0 hc).trans (jite (jcnb0 x 0))
theorem jx_iceq (hc : jcode M pc = (20, 0, b, k, n)) {x y : Int32} : jx d M pc L (.int y :: .int x :: st) σ = if x = y then jx d M b L st σ else jx d M n L st σ := (jx_if2 hc).trans (jite (jcnb0 x y))
theorem jx_ifne (hc : jcode M pc = (19, 1, b, k, n)) {x : Int32} : jx d M pc L (.int x :: st) σ = if ¬ (x = 0) then jx d M b L st σ else jx d M n L st σ := (jx_if0 hc).trans (jite (jcnb1 x 0))
theorem jx_icne (hc : jcode M pc = (20, 1, b, k, n)) {x y : Int32} : jx d M pc L (.int y :: .int x :: st) σ = if ¬ (x = y) then jx d M b L st σ else jx d M n L st σ := (jx_if2 hc).trans (jite (jcnb1 x y))
theorem jx_iflt (hc : jcode M pc = (19, 2, b, k, n)) {x : Int32} : jx d M pc L (.int x :: st) σ = if x < 0 then jx d M b L st σ else jx d M n L st σ := (jx_if0 hc).trans (jite (jcnb2 x 0))
theorem jx_iclt (hc : jcode M pc = (20, 2, b, k, n)) {x y : Int32} : jx d M pc L (.int y :: .int x :: st) σ = if x < y then jx d M b L st σ else jx d M n L st σ := (jx_if2 hc).trans (jite (jcnb2 x y))
theorem jx_ifge (hc : jcode M pc = (19, 3, b, k, n)) {x : Int32} : jx d M pc L (.int x :: st) σ = if 0 ≤ x then jx d M b L st σ else jx d M n L st σ := (jx_if0 hc).trans (jite (jcnb3 x 0))
theorem jx_icge (hc : jcode M pc = (20, 3, b, k, n)) {x y : Int32} : jx d M pc L (.int y :: .int x :: st) σ = if y ≤ x then jx d M b L st σ else jx d M n L st σ := (jx_if2 hc).trans (jite (jcnb3 x y))
theorem jx_ifgt (hc : jcode M pc = (19, 4, b, k, n)) {x : Int32} : jx d M pc L (.int x :: st) σ = if 0 < x then jx d M b L st σ else jx d M n L st σ := (jx_if0 hc).trans (jite (jcnb4 x 0))
theorem jx_icgt (hc : jcode M pc = (20, 4, b, k, n)) {x y : Int32} : jx d M pc L (.int y :: .int x :: st) σ = if y < x then jx d M b L st σ else jx d M n L st σ := (jx_if2 hc).trans (jite (jcnb4 x y))
theorem jx_ifle (hc : jcode M pc = (19, 5, b, k, n)) {x : Int32} : jx d M pc L (.int x :: st) σ = if x ≤ 0 then jx d M b L st σ else jx d M n L st σ := (jx_if0 hc).trans (jite (jcnb5 x 0))
theorem jx_icle (hc : jcode M pc = (20, 5, b, k, n)) {x y : Int32} : jx d M pc L (.int y :: .int x :: st) σ = if x ≤ y then jx d M b L st σ else jx d M n L st σ := (jx_if2 hc).trans (jite (jcnb5 x y))
theorem jx_iadd (hc : jcode M pc = (8, 0, b, k, n)) {x y : Int32} : jx d M pc L (.int y :: .int x :: st) σ = jx d M n L (.int (x + y) :: st) σ := jx_bin hc (by decide)
theorem jx_isub (hc : jcode M pc = (8, 1, b, k, n)) {x y : Int32} : jx d M pc L (.int y :: .int x :: st) σ = jx d M n L (.int (x - y) :: st) σ := jx_bin hc (by decide)
theorem jx_imul (hc : jcode M pc = (8, 2, b, k, n)) {x y : Int32} : jx d M pc L (.int y :: .int x :: st) σ = jx d M n L (.int (x * y) :: st) σ := jx_bin hc (by decide)
theorem jx_iand (hc : jcode M pc = (8, 3, b, k, n)) {x y : Int32} : jx d M pc L (.int y :: .int x :: st) σ = jx d M n L (.int (x &&& y) :: st) σ := jx_bin hc (by decide)
theorem jx_ior (hc : jcode M pc = (8, 4, b, k, n)) {x y : Int32} : jx d M pc L (.int y :: .int x :: st) σ = jx d M n L (.int (x ||| y) :: st) σ := jx_bin hc (by decide)
theorem jx_ixor (hc : jcode M pc = (8, 5, b, k, n)) {x y : Int32} : jx d M pc L (.int y :: .int x :: st) σ = jx d M n L (.int (x ^^^ y) :: st) σ := jx_bin hc (by decide)
theorem jx_ishl (hc : jcode M pc = (8, 6, b, k, n)) {x y : Int32} : jx d M pc L (.int y :: .int x :: st) σ = jx d M n L (.int (x <<< (y &&& 31)) :: st) σ := jx_bin hc (by decide)
theorem jx_ishr (hc : jcode M pc = (8, 7, b, k, n)) {x y : Int32} : jx d M pc L (.int y :: .int x :: st) σ = jx d M n L (.int (x >>> (y &&& 31)) :: st) σ := jx_bin hc (by decide)
theorem jx_goto (hc : jcode M pc = (21, a, b, k, n)) : jx d M pc L st σ = jx d M b L st σ := jx_go (by rw [hc]; rfl)
theorem jx_ifnull (hc : jcode M pc = (22, a, b, k, n)) {x : Nat} : jx d M pc L (.ref x :: st) σ = jx d M n L st σ := jx_go (by rw [hc]; rfl)
theorem jx_ifnullN (hc : jcode M pc = (22, a, b, k, n)) : jx d M pc L (.null :: st) σ = jx d M b L st σ := jx_go (by rw [hc]; rfl)
theorem jx_ifnn (hc : jcode M pc = (23, a, b, k, n)) {x : Nat} : jx d M pc L (.ref x :: st) σ = jx d M b L st σ := jx_go (by rw [hc]; rfl)
theorem jx_ifnnN (hc : jcode M pc = (23, a, b, k, n)) : jx d M pc L (.null :: st) σ = jx d M n L st σ := jx_go (by rw [hc]; rfl)
theorem jx_null (hc : jcode M pc = (24, a, b, k, n)) : jx d M pc L st σ = jx d M n L (.null :: st) σ := jx_go (by rw [hc]; rfl)
theorem jx_getI (hc : jcode M pc = (25, a, b, k, n)) (hk : ¬ jkd a = 1) {q t : Nat} (ht : 1 + a / 64 = t) (hT : jT σ q = t) : jx d M pc L (.ref q :: st) σ = jx d M n L (.int (jI σ a q) :: st) σ := by
  subst ht
  exact jx_go (by rw [hc]; rw [jcmd_2 (by decide) (by decide)]; simp (decide := true) only [jcmd2, reduceIte, hT]; rw [show jfv σ a q = .int (jI σ a q) from if_neg hk])
theorem jx_getR (hc : jcode M pc = (25, a, b, k, n)) (hk : jkd a = 1) {q t : Nat} (ht : 1 + a / 64 = t) (hT : jT σ q = t) : jx d M pc L (.ref q :: st) σ = jx d M n L (va_rf (jR σ a q) :: st) σ := by
  subst ht
  exact jx_go (by rw [hc]; rw [jcmd_2 (by decide) (by decide)]; simp (decide := true) only [jcmd2, reduceIte, hT]; rw [show jfv σ a q = va_rf (jR σ a q) from if_pos hk])
theorem jx_putI {op : Nat} (hop : op = 26 ∨ op = 27) (hc : jcode M pc = (op, a, b, k, n)) {q t : Nat} {x : Int32} (hk : jkd a = 0) (ht : 1 + a / 64 = t) (hT : jT σ q = t) : jx d M pc L (.int x :: .ref q :: st) σ = jx d M n L st (jsI σ a q x) := by
  subst ht
  have h : jput n a L (.int x :: .ref q :: st) σ = jgo n L st (jsI σ a q x) := by show (if _ then _ else _) = _; rw [if_pos ⟨hT, Or.inl hk⟩]
  rcases hop with rfl | rfl <;> exact jx_go (by rw [hc]; exact h)
theorem jx_putZ {op : Nat} (hop : op = 26 ∨ op = 27) (hc : jcode M pc = (op, a, b, k, n)) {q t : Nat} {x : Int32} (hk : jkd a = 2) (hx : x = 0 ∨ x = 1) (ht : 1 + a / 64 = t) (hT : jT σ q = t) : jx d M pc L (.int x :: .ref q :: st) σ = jx d M n L st (jsI σ a q x) := by
  subst ht
  have h : jput n a L (.int x :: .ref q :: st) σ = jgo n L st (jsI σ a q x) := by show (if _ then _ else _) = _; rw [if_pos ⟨hT, Or.inr ⟨hk, hx⟩⟩]
  rcases hop with rfl | rfl <;> exact jx_go (by rw [hc]; exact h)
theorem jx_putR {op : Nat} (hop : op = 26 ∨ op = 27) (hc : jcode M pc = (op, a, b, k, n)) {q t x : Nat} (hk : jkd a = 1) (ht : 1 + a / 64 = t) (hT : jT σ q = t) : jx d M pc L (.ref x :: .ref q :: st) σ = jx d M n L st (jsR σ a q (some x)) := by
  subst ht
  have h : jput n a L (.ref x :: .ref q :: st) σ = jgo n L st (jsR σ a q (some x)) := by show (if _ then _ else _) = _; rw [if_pos ⟨hT, hk⟩]
  rcases hop with rfl | rfl <;> exact jx_go (by rw [hc]; exact h)
theorem jx_iald (hc : jcode M pc = (28, a, b, k, n)) {q : Nat} {i : Int32} (hT : jT σ q = 20 ∨ jT σ q = 60) (hi : ¬ (i < 0 ∨ jN σ q ≤ i.toNatClampNeg)) : jx d M pc L (.int i :: .ref q :: st) σ = jx d M n L (.int (jA σ q i.toNatClampNeg) :: st) σ := jx_go (by rw [hc]; rw [jcmd_2 (by decide) (by decide)]; simp (decide := true) only [jcmd2, reduceIte]; rw [if_pos hT, if_neg hi])
theorem jx_iast (hc : jcode M pc = (29, a, b, k, n)) {q : Nat} {i x : Int32} (hT : jT σ q = 20) (hi : ¬ (i < 0 ∨ jN σ q ≤ i.toNatClampNeg)) : jx d M pc L (.int x :: .int i :: .ref q :: st) σ = jx d M n L st (jsA σ q i.toNatClampNeg x) := jx_go (by rw [hc]; rw [jcmd_2 (by decide) (by decide)]; simp (decide := true) only [jcmd2, reduceIte]; rw [if_pos hT, if_neg hi])
theorem jx_bald (hc : jcode M pc = (30, a, b, k, n)) {q : Nat} {i : Int32} (hT : jT σ q = 21 ∨ jT σ q = 22) (hi : ¬ (i < 0 ∨ jN σ q ≤ i.toNatClampNeg)) : jx d M pc L (.int i :: .ref q :: st) σ = jx d M n L (.int (jA σ q i.toNatClampNeg) :: st) σ := jx_go (by rw [hc]; rw [jcmd_2 (by decide) (by decide)]; simp (decide := true) only [jcmd2, reduceIte]; rw [if_pos hT, if_neg hi])
theorem jx_bast (hc : jcode M pc = (31, a, b, k, n)) {q : Nat} {i x : Int32} (hT : jT σ q = 21) (hi : ¬ (i < 0 ∨ jN σ q ≤ i.toNatClampNeg)) : jx d M pc L (.int x :: .int i :: .ref q :: st) σ = jx d M n L st (jsA σ q i.toNatClampNeg x.toInt8.toInt32) := jx_go (by rw [hc]; rw [jcmd_2 (by decide) (by decide)]; simp (decide := true) only [jcmd2, reduceIte]; rw [if_neg hi, if_pos hT])
theorem jx_zast (hc : jcode M pc = (31, a, b, k, n)) {q : Nat} {i x : Int32} (hT : jT σ q = 22) (hi : ¬ (i < 0 ∨ jN σ q ≤ i.toNatClampNeg)) : jx d M pc L (.int x :: .int i :: .ref q :: st) σ = jx d M n L st (jsA σ q i.toNatClampNeg (x &&& 1)) := jx_go (by rw [hc]; rw [jcmd_2 (by decide) (by decide)]; simp (decide := true) only [jcmd2, reduceIte]; rw [if_neg hi, if_neg (by omega), if_pos hT])
theorem jx_aald (hc : jcode M pc = (32, a, b, k, n)) {q t : Nat} {i : Int32} (hT : jT σ q = t) (ht : 30 ≤ t ∧ t < 50) (hi : ¬ (i < 0 ∨ jN σ q ≤ i.toNatClampNeg)) : jx d M pc L (.int i :: .ref q :: st) σ = jx d M n L (va_rf (jG σ q i.toNatClampNeg) :: st) σ := by
  subst hT
  exact jx_go (by rw [hc]; rw [jcmd_2 (by decide) (by decide)]; simp (decide := true) only [jcmd2, reduceIte]; rw [if_pos ht, if_neg hi])
theorem jx_aast (hc : jcode M pc = (33, a, b, k, n)) {q x t : Nat} {i : Int32} (hT : jT σ q = t) (hX : jT σ x + 29 = t) (ht : 30 ≤ t ∧ t < 50) (hi : ¬ (i < 0 ∨ jN σ q ≤ i.toNatClampNeg)) : jx d M pc L (.ref x :: .int i :: .ref q :: st) σ = jx d M n L st (jsG σ q i.toNatClampNeg (some x)) := by
  subst hT
  exact jx_go (by rw [hc]; rw [jcmd_2 (by decide) (by decide)]; simp (decide := true) only [jcmd2, reduceIte]; rw [if_pos ⟨ht.1, ht.2, hX⟩, if_neg hi])
theorem jx_alen (hc : jcode M pc = (34, a, b, k, n)) {q t : Nat} (hT : jT σ q = t) (ht : 20 ≤ t ∧ t ≤ 60) : jx d M pc L (.ref q :: st) σ = jx d M n L (.int (Int32.ofNat (jN σ q)) :: st) σ := by
  subst hT
  exact jx_go (by rw [hc]; rw [jcmd_2 (by decide) (by decide)]; simp (decide := true) only [jcmd2, reduceIte]; rw [if_pos ht])
theorem jx_new (hc : jcode M pc = (35, a, b, k, n)) {r : vw_C} (hr : jcl[a]? = some r) {w : Nat} (hw : r.2.2 = w) : jx d M pc L st σ = jx d M n L (.ref (jnx σ) :: st) (jnO σ a w) := by
  subst hw
  exact jx_go (by rw [hc]; rw [jcmd_2 (by decide) (by decide)]; simp (decide := true) only [jcmd2, reduceIte, hr])
theorem jx_newa (hc : jcode M pc = (36, a, b, k, n)) {x : Int32} (hx : ¬ (x < 0 ∨ 1000000 < x.toNatClampNeg)) : jx d M pc L (.int x :: st) σ = jx d M n L (.ref (jnx σ) :: st) (jnA σ a x.toNatClampNeg) := jx_go (by rw [hc]; rw [jcmd_2 (by decide) (by decide)]; simp (decide := true) only [jcmd2, reduceIte]; rw [if_neg hx])
theorem jx_newq (hc : jcode M pc = (37, a, b, k, n)) {x : Int32} (hx : ¬ (x < 0 ∨ 1000000 < x.toNatClampNeg)) : jx d M pc L (.int x :: st) σ = jx d M n L (.ref (jnx σ) :: st) (jnG σ a x.toNatClampNeg) := jx_go (by rw [hc]; rw [jcmd_2 (by decide) (by decide)]; simp (decide := true) only [jcmd2, reduceIte]; rw [if_neg hx])
theorem jx_callS {op : Nat} (hop : op = 38 ∨ op = 41) (hc : jcode M pc = (op, a, b, k, n)) {as rest s0 : List Value} {L0 : jL} (hs : s0 = as.reverse ++ rest) (hn : as.length = jna a) (hcs : jcs rest ≤ 8) (hl : (jlay as).length ≤ jml a) (hL : jent a as = L0) : jx (d + 1) M pc L s0 σ = (jx d a 0 L0 [] σ).bind (fun z => jx (d + 1) M n L (z.1.toList ++ rest) z.2) := by
  subst hL
  have h1 : s0.take (jna a) = as.reverse := by rw [hs, ← hn, ← List.length_reverse, List.take_left]
  have h2 : s0.drop (jna a) = rest := by rw [hs, ← hn, ← List.length_reverse, List.drop_left]
  have h : jcall a n false s0 σ = some (.inr (.inr (a, as, n, rest))) := by
    unfold jcall
    rw [h1, h2, List.reverse_reverse, if_neg]
    · simp
    · rw [hs, List.length_append, List.length_reverse]; omega
  rcases hop with rfl | rfl <;> exact jx_cl (by rw [hc]; exact h)
theorem jx_callV {op : Nat} (hop : op = 39 ∨ op = 40 ∨ op = 42 ∨ op = 43) (hc : jcode M pc = (op, a, b, k, n)) {q t : Nat} {as rest s0 : List Value} {L0 : jL} (hs : s0 = as.reverse ++ .ref q :: rest) (hn : as.length + 1 = jna a) (hcs : jcs rest ≤ 8) (hl : (jlay (.ref q :: as)).length ≤ jml a) (hL : jent a (.ref q :: as) = L0) (ht : 1 + jci a = t) (hT : jT σ q = t) : jx (d + 1) M pc L s0 σ = (jx d a 0 L0 [] σ).bind (fun z => jx (d + 1) M n L (z.1.toList ++ rest) z.2) := by
  subst hL
  subst ht
  have hs' : s0 = (.ref q :: as).reverse ++ rest := by rw [hs]; simp
  have hn' : (Value.ref q :: as).length = jna a := hn
  have h1 : s0.take (jna a) = (Value.ref q :: as).reverse := by rw [hs', ← hn', ← List.length_reverse, List.take_left]
  have h2 : s0.drop (jna a) = rest := by rw [hs', ← hn', ← List.length_reverse, List.drop_left]
  have h : jcall a n true s0 σ = some (.inr (.inr (a, .ref q :: as, n, rest))) := by
    unfold jcall
    rw [h1, h2, List.reverse_reverse, if_neg]
    · simp only [if_true]
      rw [if_pos hT]
    · rw [hs', List.length_append, List.length_reverse]; omega
  rcases hop with rfl | rfl | rfl | rfl <;> exact jx_cl (by rw [hc]; exact h)
theorem jx_obj (hc : jcode M pc = (44, a, b, k, n)) {q : Nat} (hcs : jcs st ≤ 8) : jx (d + 1) M pc L (.ref q :: st) σ = jx (d + 1) M n L st σ := jx_go (by rw [hc]; rw [jcmd_3 (by decide) (by decide) (by decide)]; simp (decide := true) only [jcmd3, reduceIte]; rw [if_pos ⟨Nat.succ_pos _, hcs⟩])
theorem jx_vret (hc : jcode M pc = (45, a, b, k, n)) : jx d M pc L [] σ = some (none, σ) := jx_ret (by rw [hc]; rfl)
theorem jx_iret (hc : jcode M pc = (46, a, b, k, n)) {x : Int32} : jx d M pc L [.int x] σ = some (some (.int x), σ) := jx_ret (by rw [hc]; rfl)
theorem jx_zret (hc : jcode M pc = (47, a, b, k, n)) {x : Int32} (hx : x &&& 1 = x) : jx d M pc L [.int x] σ = some (some (.int x), σ) := jx_ret (by rw [hc]; rw [jcmd_3 (by decide) (by decide) (by decide)]; simp (decide := true) only [jcmd3, reduceIte]; rw [if_pos hx])
theorem jx_aret (hc : jcode M pc = (48, a, b, k, n)) {x : Nat} : jx d M pc L [.ref x] σ = some (some (.ref x), σ) := jx_ret (by rw [hc]; rfl)
theorem jx_aretN (hc : jcode M pc = (48, a, b, k, n)) : jx d M pc L [.null] σ = some (some .null, σ) := jx_ret (by rw [hc]; rfl)
theorem jx_lret (hc : jcode M pc = (49, a, b, k, n)) {x : Int64} : jx d M pc L [.long x] σ = some (some (.long x), σ) := jx_ret (by rw [hc]; rfl)
theorem jx_tsw (hc : jcode M pc = (50, a, b, k, n)) {x : Int32} {lo hi : Int} {df t : Nat} {ts : List Nat} (ht : jts[a]? = some (lo, hi, df, ts)) (h1 : ¬ (x.toInt < lo ∨ hi < x.toInt)) (h2 : ts[(x.toInt - lo).toNat]? = some t) : jx d M pc L (.int x :: st) σ = jx d M t L st σ := jx_go (by rw [hc]; rw [jcmd_3 (by decide) (by decide) (by decide)]; simp (decide := true) only [jcmd3, reduceIte, ht]; rw [if_neg h1, h2])
theorem jx_tswD (hc : jcode M pc = (50, a, b, k, n)) {x : Int32} {lo hi : Int} {df : Nat} {ts : List Nat} (ht : jts[a]? = some (lo, hi, df, ts)) (h1 : x.toInt < lo ∨ hi < x.toInt) : jx d M pc L (.int x :: st) σ = jx d M df L st σ := jx_go (by rw [hc]; rw [jcmd_3 (by decide) (by decide) (by decide)]; simp (decide := true) only [jcmd3, reduceIte, ht]; rw [if_pos h1])
theorem jx_lsw (hc : jcode M pc = (51, a, b, k, n)) {x : Int32} {df : Nat} {ps : List (Int × Nat)} (ht : jls[a]? = some (df, ps)) : jx d M pc L (.int x :: st) σ = jx d M (jlk ps df x.toInt) L st σ := jx_go (by rw [hc]; rw [jcmd_3 (by decide) (by decide) (by decide)]; simp (decide := true) only [jcmd3, reduceIte, ht])
theorem jx_getsA (hc : jcode M pc = (52, a, b, k, n)) (ha : a = 1 ∨ a = 2) (hT : jT σ 3 = 61) : jx d M pc L st σ = jx d M n L (.ref a :: st) σ := jx_go (by rw [hc]; rw [jcmd_4 (by decide) (by decide) (by decide)]; simp (decide := true) only [jcmd4, reduceIte]; rw [if_pos ⟨hT, ha⟩])
theorem jx_ldcs (hc : jcode M pc = (53, a, b, k, n)) (hT : jT σ 3 = 61) : jx d M pc L st σ = jx d M n L (.ref 3 :: st) σ := jx_go (by rw [hc]; rw [jcmd_4 (by decide) (by decide) (by decide)]; simp (decide := true) only [jcmd4, reduceIte]; rw [if_pos hT])
theorem jx_getsI (hc : jcode M pc = (55, a, b, k, n)) (hT : jT σ 3 = 61) : jx d M pc L st σ = jx d M n L (.int 1 :: st) σ := jx_go (by rw [hc]; rw [jcmd_4 (by decide) (by decide) (by decide)]; simp (decide := true) only [jcmd4, reduceIte]; rw [if_pos hT])
theorem jx_getsF (hc : jcode M pc = (59, a, b, k, n)) (hT : jT σ 3 = 61) : jx d M pc L st σ = jx d M n L (va_rf (jR σ 0 3) :: st) σ := jx_go (by rw [hc]; rw [jcmd_4 (by decide) (by decide) (by decide)]; simp (decide := true) only [jcmd4, reduceIte]; rw [if_pos hT])
theorem jx_getV (hc : jcode M pc = (57, a, b, k, n)) (hT : jT σ 3 = 61) : jx d M pc L (.ref 3 :: st) σ = jx d M n L (.ref 4 :: st) σ := jx_go (by rw [hc]; rw [jcmd_4 (by decide) (by decide) (by decide)]; simp (decide := true) only [jcmd4, reduceIte]; rw [if_pos ⟨trivial, hT⟩])
theorem jx_getC (hc : jcode M pc = (58, a, b, k, n)) (hT : jT σ 3 = 61) : jx d M pc L (.ref 3 :: st) σ = jx d M n L (.int 0 :: st) σ := jx_go (by rw [hc]; rw [jcmd_4 (by decide) (by decide) (by decide)]; simp (decide := true) only [jcmd4, reduceIte]; rw [if_pos ⟨trivial, hT⟩])
theorem jx_i2c (hc : jcode M pc = (60, a, b, k, n)) {x : Int32} : jx d M pc L (.int x :: st) σ = jx d M n L (.int (x.toUInt32 % 65536).toInt32 :: st) σ := jx_go (by rw [hc]; rfl)
theorem jx_cret (hc : jcode M pc = (61, 0, b, k, n)) {x : Int32} (hx : x.toUInt32.toUInt16.toUInt32.toInt32 = x) : jx d M pc L [.int x] σ = some (some (.int x), σ) := jx_ret (by rw [hc]; rw [jcmd_4 (by decide) (by decide) (by decide)]; simp (decide := true) only [jcmd4, reduceIte]; rw [if_pos (Or.inl ⟨trivial, hx⟩)])
theorem jx_bret (hc : jcode M pc = (61, 1, b, k, n)) {x : Int32} (hx : x.toInt8.toInt32 = x) : jx d M pc L [.int x] σ = some (some (.int x), σ) := jx_ret (by rw [hc]; rw [jcmd_4 (by decide) (by decide) (by decide)]; simp (decide := true) only [jcmd4, reduceIte]; rw [if_pos (Or.inr ⟨trivial, hx⟩)])
theorem jx_tbald (hc : jcode M pc = (62, a, b, k, n)) {i : Int32} (hT : jT σ 3 = 61) (hi : ¬ (i < 0 ∨ 57 ≤ i.toNatClampNeg)) : jx d M pc L (.int i :: .ref 4 :: st) σ = jx d M n L (.int (jnmb i.toNatClampNeg) :: st) σ := jx_go (by rw [hc]; rw [jcmd_4 (by decide) (by decide) (by decide)]; simp (decide := true) only [jcmd4, reduceIte]; rw [if_pos ⟨⟨trivial, hT⟩, hi⟩])
theorem jx_tlen (hc : jcode M pc = (63, a, b, k, n)) (hT : jT σ 3 = 61) : jx d M pc L (.ref 4 :: st) σ = jx d M n L (.int 57 :: st) σ := jx_go (by rw [hc]; rw [jcmd_4 (by decide) (by decide) (by decide)]; simp (decide := true) only [jcmd4, reduceIte]; rw [if_pos ⟨trivial, hT⟩])
theorem jx_acpy (hc : jcode M pc = (56, a, b, k, n)) {p q : Nat} {i y x : Int32} (hp : jT σ p = 20) (hq : jT σ q = 20) (hcs : jcs st ≤ 8) (hi : ¬ i < 0 ∧ ¬ y < 0 ∧ ¬ x < 0) (h1 : i.toNatClampNeg + x.toNatClampNeg ≤ jN σ p) (h2 : y.toNatClampNeg + x.toNatClampNeg ≤ jN σ q) : jx (d + 1) M pc L (.int x :: .int y :: .ref q :: .int i :: .ref p :: st) σ = jx (d + 1) M n L st (jcp σ p i.toNatClampNeg q y.toNatClampNeg x.toNatClampNeg) := jx_go (by rw [hc]; rw [jcmd_4 (by decide) (by decide) (by decide)]; simp (decide := true) only [jcmd4, reduceIte]; rw [if_pos ⟨⟨hp, hq⟩, ⟨Nat.succ_pos _, hcs⟩, hi, h1, h2⟩])
theorem jx_callT (hc : jcode M pc = (54, a, b, k, n)) {as rest s0 : List Value} {L0 : jL} (hs : s0 = as.reverse ++ .ref 3 :: rest) (hn : as.length + 1 = jna a) (hcs : jcs rest ≤ 8) (hl : (jlay (.ref 3 :: as)).length ≤ jml a) (hL : jent a (.ref 3 :: as) = L0) (hT : jT σ 3 = 61) : jx (d + 1) M pc L s0 σ = (jx d a 0 L0 [] σ).bind (fun z => jx (d + 1) M n L (z.1.toList ++ rest) z.2) := by
  subst hL
  have hs' : s0 = (.ref 3 :: as).reverse ++ rest := by rw [hs]; simp
  have hn' : (Value.ref 3 :: as).length = jna a := hn
  have h1 : s0.take (jna a) = (Value.ref 3 :: as).reverse := by rw [hs', ← hn', ← List.length_reverse, List.take_left]
  have h2 : s0.drop (jna a) = rest := by rw [hs', ← hn', ← List.length_reverse, List.drop_left]
  have h : jcall a n false s0 σ = some (.inr (.inr (a, .ref 3 :: as, n, rest))) := by
    unfold jcall
    rw [h1, h2, List.reverse_reverse, if_neg]
    · simp
    · rw [hs', List.length_append, List.length_reverse]; omega
  refine jx_cl ?_
  rw [hc, jcmd_4 (by decide) (by decide) (by decide)]
  simp (decide := true) only [jcmd4, reduceIte]
  rw [h1, List.reverse_reverse]
  simp only
  rw [if_pos ⟨trivial, hT⟩]
  exact h
end JXO
/-! Math's three -/
theorem jx_min (d : Nat) (x y : Int32) (σ : jS) : jx d 5 0 [some (.int x), some (.int y)] [] σ = some (some (.int (if y < x then y else x)), σ) := by
  rw [jx_iload (M := 5) (pc := 0) rfl rfl, jx_iload (M := 5) (pc := 1) rfl rfl, jx_icgt (M := 5) (pc := 2) rfl]
  by_cases h : y < x
  · rw [if_pos h, if_pos h, jx_iload (M := 5) (pc := 9) rfl rfl, jx_iret (M := 5) (pc := 10) rfl]
  · rw [if_neg h, if_neg h, jx_iload (M := 5) (pc := 5) rfl rfl, jx_goto (M := 5) (pc := 6) rfl, jx_iret (M := 5) (pc := 10) rfl]
theorem jx_max (d : Nat) (x y : Int32) (σ : jS) : jx d 6 0 [some (.int x), some (.int y)] [] σ = some (some (.int (if x < y then y else x)), σ) := by
  rw [jx_iload (M := 6) (pc := 0) rfl rfl, jx_iload (M := 6) (pc := 1) rfl rfl, jx_iclt (M := 6) (pc := 2) rfl]
  by_cases h : x < y
  · rw [if_pos h, if_pos h, jx_iload (M := 6) (pc := 9) rfl rfl, jx_iret (M := 6) (pc := 10) rfl]
  · rw [if_neg h, if_neg h, jx_iload (M := 6) (pc := 5) rfl rfl, jx_goto (M := 6) (pc := 6) rfl, jx_iret (M := 6) (pc := 10) rfl]
theorem jx_lmin (d : Nat) (x y : Int64) (σ : jS) : jx d 55 0 [some (.long x), none, some (.long y), none] [] σ = some (some (.long (if y < x then y else x)), σ) := by
  rw [jx_lload (M := 55) (pc := 0) rfl rfl, jx_lload (M := 55) (pc := 1) rfl rfl, jx_lcmp (M := 55) (pc := 2) rfl, jx_ifgt (M := 55) (pc := 3) rfl]
  by_cases h : y < x
  · have h2 : (0 : Int32) < lg_cmp x y := by unfold lg_cmp; rw [if_pos h]; decide
    rw [if_pos h2, if_pos h, jx_lload (M := 55) (pc := 10) rfl rfl, jx_lret (M := 55) (pc := 11) rfl]
  · have h2 : ¬ (0 : Int32) < lg_cmp x y := by
      unfold lg_cmp
      rw [if_neg h]
      by_cases h3 : x = y
      · rw [if_pos h3]; decide
      · rw [if_neg h3]; decide
    rw [if_neg h2, if_neg h, jx_lload (M := 55) (pc := 6) rfl rfl, jx_goto (M := 55) (pc := 7) rfl, jx_lret (M := 55) (pc := 11) rfl]
