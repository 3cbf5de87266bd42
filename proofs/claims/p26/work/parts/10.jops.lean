/-! each instruction of the J machine is a step of the machine -/
def jCtx (D : jD) (M : Nat) (p : Program) (s : State) (m : MethodId) (args : Array Value) (meth : Method) (c : Code) : Prop :=
  p.tables.exec = Jvm.exec ∧ c.code = jbs M ∧ c.maxLocals = jml M ∧ s.vm.findClass (jown M) = some m.cls ∧ (∀ w ∈ jw, w.before args s = true) ∧ jKn D s ∧ ((jget M).1.name = "<init>" → meth.name = "<init>")
/-- from here the machine comes to an end with Q -/
def jK (D : jD) (M : Nat) (p : Program) (l : Launch) (e : Env) (R : Room) (s : State) (m : MethodId) (args : Array Value) (below : List Frame) (meth : Method) (c : Code) (Q : State → Prop) (n1 s1 pc : Nat) (L : jL) (st : List Value) (σ : jS) : Prop :=
  ∀ (H : Heap) (locs : List Loc) (ls : Array Slot), jl D ls (jml M) L → jRel D σ s H → (∀ q ∈ locs, jn0 D ≤ q.base) → W p l e R s m args below meth c H locs (jnx σ - n1) (jsl σ - s1) Q (F0 m pc ls (st.map (jv D)))
theorem jdc_of {M pc len n : Nat} {i : Instr} (h : jdc M pc i len n = true) : decode (jbs M) pc = .ok (i, len) ∧ n = pc + len := by
  unfold jdc at h
  simp only [Bool.and_eq_true, decide_eq_true_eq] at h
  exact h
section JO
variable {D : jD} {M : Nat} {p : Program} {l : Launch} {e : Env} {R : Room} {s : State} {m : MethodId} {args : Array Value} {below : List Frame} {meth : Method} {c : Code} {Q : State → Prop} {n1 s1 pc n : Nat} {L : jL} {st : List Value} {σ : jS}
theorem jo_const (C : jCtx D M p s m args meth c) {a b : Nat} {k : Int} (h : jchk1 M pc 0 a b k n = true) (kk : jK D M p l e R s m args below meth c Q n1 s1 n L (.int (Int32.ofInt k) :: st) σ) : jK D M p l e R s m args below meth c Q n1 s1 pc L st σ := by
  intro H locs ls hl hr hlo
  have kk := kk H locs ls hl hr hlo
  simp only [jchk1, if_pos, Bool.or_eq_true, Bool.and_eq_true, decide_eq_true_eq] at h
  rcases h with (h | ⟨h, hv⟩) | ⟨h, hv⟩
  · obtain ⟨h1, rfl⟩ := jdc_of h
    exact lv_iconst C.1 C.2.1 h1 rfl kk
  · obtain ⟨h1, rfl⟩ := jdc_of h
    exact lv_bipush C.1 C.2.1 h1 hv kk
  · obtain ⟨h1, rfl⟩ := jdc_of h
    exact lv_sipush C.1 C.2.1 h1 hv kk
theorem jo_iload (C : jCtx D M p s m args meth c) {a b : Nat} {k : Int} (h : jchk1 M pc 1 a b k n = true) {x : Int32} (hx : L[a]? = some (some (.int x))) (kk : jK D M p l e R s m args below meth c Q n1 s1 n L (.int x :: st) σ) : jK D M p l e R s m args below meth c Q n1 s1 pc L st σ := by
  intro H locs ls hl hr hlo
  have kk := kk H locs ls hl hr hlo
  have hx := hl.2.2.2 a _ hx
  simp (decide := true) only [jchk1, reduceIte, Bool.or_eq_true, Bool.and_eq_true, decide_eq_true_eq] at h
  rcases h with ⟨h4, h⟩ | h
  · obtain ⟨h1, rfl⟩ := jdc_of h
    exact lv_iload_n C.1 C.2.1 h1 (Nat.mod_eq_of_lt h4) hx kk
  · obtain ⟨h1, rfl⟩ := jdc_of h
    exact lv_iload C.1 C.2.1 h1 hx kk
theorem jo_aload (C : jCtx D M p s m args meth c) {a b : Nat} {k : Int} (h : jchk1 M pc 2 a b k n = true) {x : Nat} (hx : L[a]? = some (some (.ref x))) (kk : jK D M p l e R s m args below meth c Q n1 s1 n L (.ref x :: st) σ) : jK D M p l e R s m args below meth c Q n1 s1 pc L st σ := by
  intro H locs ls hl hr hlo
  have kk := kk H locs ls hl hr hlo
  have hx := hl.2.2.2 a _ hx
  simp (decide := true) only [jchk1, reduceIte, Bool.or_eq_true, Bool.and_eq_true, decide_eq_true_eq] at h
  rcases h with ⟨h4, h⟩ | h
  · obtain ⟨h1, rfl⟩ := jdc_of h
    exact lv_aload_n C.1 C.2.1 h1 (Nat.mod_eq_of_lt h4) hx kk
  · obtain ⟨h1, rfl⟩ := jdc_of h
    exact lv_aload C.1 C.2.1 h1 hx kk
theorem jo_aloadN (C : jCtx D M p s m args meth c) {a b : Nat} {k : Int} (h : jchk1 M pc 2 a b k n = true) (hx : L[a]? = some (some .null)) (kk : jK D M p l e R s m args below meth c Q n1 s1 n L (.null :: st) σ) : jK D M p l e R s m args below meth c Q n1 s1 pc L st σ := by
  intro H locs ls hl hr hlo
  have kk := kk H locs ls hl hr hlo
  have hx := hl.2.2.2 a _ hx
  simp (decide := true) only [jchk1, reduceIte, Bool.or_eq_true, Bool.and_eq_true, decide_eq_true_eq] at h
  rcases h with ⟨h4, h⟩ | h
  · obtain ⟨h1, rfl⟩ := jdc_of h
    exact lv_aload_nN C.1 C.2.1 h1 (Nat.mod_eq_of_lt h4) hx kk
  · obtain ⟨h1, rfl⟩ := jdc_of h
    exact lv_aloadN C.1 C.2.1 h1 hx kk
theorem jo_lload (C : jCtx D M p s m args meth c) {a b : Nat} {k : Int} (h : jchk1 M pc 3 a b k n = true) {x : Int64} (hx : L[a]? = some (some (.long x))) (kk : jK D M p l e R s m args below meth c Q n1 s1 n L (.long x :: st) σ) : jK D M p l e R s m args below meth c Q n1 s1 pc L st σ := by
  intro H locs ls hl hr hlo
  have kk := kk H locs ls hl hr hlo
  have hx := hl.2.2.2 a _ hx
  simp (decide := true) only [jchk1, reduceIte, Bool.or_eq_true, Bool.and_eq_true, decide_eq_true_eq] at h
  rcases h with ⟨h4, h⟩ | h
  · obtain ⟨h1, rfl⟩ := jdc_of h
    exact lv_lload_n C.1 C.2.1 h1 (Nat.mod_eq_of_lt h4) hx kk
  · obtain ⟨h1, rfl⟩ := jdc_of h
    exact lv_lload C.1 C.2.1 h1 hx kk
theorem jo_istore (C : jCtx D M p s m args meth c) {a b : Nat} {k : Int} (h : jchk1 M pc 4 a b k n = true) {x : Int32} (ha : a < L.length) (kk : jK D M p l e R s m args below meth c Q n1 s1 n (jst1 L a (.int x)) st σ) : jK D M p l e R s m args below meth c Q n1 s1 pc L (.int x :: st) σ := by
  intro H locs ls hl hr hlo
  rw [hl.2.2.1] at ha
  simp (decide := true) only [jchk1, reduceIte, Bool.or_eq_true, Bool.and_eq_true, decide_eq_true_eq] at h
  rcases h with ⟨h4, h⟩ | h
  · obtain ⟨h1, rfl⟩ := jdc_of h
    exact lv_istore_n C.1 C.2.1 h1 (Nat.mod_eq_of_lt h4) hl.has ha rfl (fun ls' hl' => kk H locs ls' (hl.st1 ha hl') hr hlo)
  · obtain ⟨h1, rfl⟩ := jdc_of h
    exact lv_istore C.1 C.2.1 h1 hl.has ha rfl (fun ls' hl' => kk H locs ls' (hl.st1 ha hl') hr hlo)
theorem jo_astore (C : jCtx D M p s m args meth c) {a b : Nat} {k : Int} (h : jchk1 M pc 5 a b k n = true) {x : Nat} (ha : a < L.length) (kk : jK D M p l e R s m args below meth c Q n1 s1 n (jst1 L a (.ref x)) st σ) : jK D M p l e R s m args below meth c Q n1 s1 pc L (.ref x :: st) σ := by
  intro H locs ls hl hr hlo
  rw [hl.2.2.1] at ha
  simp (decide := true) only [jchk1, reduceIte, Bool.or_eq_true, Bool.and_eq_true, decide_eq_true_eq] at h
  rcases h with ⟨h4, h⟩ | h
  · obtain ⟨h1, rfl⟩ := jdc_of h
    exact lv_astore_n C.1 C.2.1 h1 (Nat.mod_eq_of_lt h4) hl.has ha rfl (fun ls' hl' => kk H locs ls' (hl.st1 (v := .ref x) ha hl') hr hlo)
  · obtain ⟨h1, rfl⟩ := jdc_of h
    exact lv_astore C.1 C.2.1 h1 hl.has ha rfl (fun ls' hl' => kk H locs ls' (hl.st1 (v := .ref x) ha hl') hr hlo)
theorem jo_astoreN (C : jCtx D M p s m args meth c) {a b : Nat} {k : Int} (h : jchk1 M pc 5 a b k n = true) (ha : a < L.length) (kk : jK D M p l e R s m args below meth c Q n1 s1 n (jst1 L a .null) st σ) : jK D M p l e R s m args below meth c Q n1 s1 pc L (.null :: st) σ := by
  intro H locs ls hl hr hlo
  rw [hl.2.2.1] at ha
  simp (decide := true) only [jchk1, reduceIte, Bool.or_eq_true, Bool.and_eq_true, decide_eq_true_eq] at h
  rcases h with ⟨h4, h⟩ | h
  · obtain ⟨h1, rfl⟩ := jdc_of h
    exact lv_astore_nN C.1 C.2.1 h1 (Nat.mod_eq_of_lt h4) hl.has ha rfl (fun ls' hl' => kk H locs ls' (hl.st1 (v := .null) ha hl') hr hlo)
  · obtain ⟨h1, rfl⟩ := jdc_of h
    exact lv_astoreN C.1 C.2.1 h1 hl.has ha rfl (fun ls' hl' => kk H locs ls' (hl.st1 (v := .null) ha hl') hr hlo)
theorem jo_lstore (C : jCtx D M p s m args meth c) {a b : Nat} {k : Int} (h : jchk1 M pc 6 a b k n = true) {x : Int64} (ha : a + 1 < L.length) (kk : jK D M p l e R s m args below meth c Q n1 s1 n (jst2 L a (.long x)) st σ) : jK D M p l e R s m args below meth c Q n1 s1 pc L (.long x :: st) σ := by
  intro H locs ls hl hr hlo
  rw [hl.2.2.1] at ha
  simp (decide := true) only [jchk1, reduceIte, Bool.or_eq_true, Bool.and_eq_true, decide_eq_true_eq] at h
  rcases h with ⟨h4, h⟩ | h
  · obtain ⟨h1, rfl⟩ := jdc_of h
    exact lv_lstore_n C.1 C.2.1 h1 (Nat.mod_eq_of_lt h4) hl.has ha rfl (fun ls' hl' => kk H locs ls' (hl.st2 (v := .long x) ha hl') hr hlo)
  · obtain ⟨h1, rfl⟩ := jdc_of h
    exact lv_lstore C.1 C.2.1 h1 hl.has ha rfl (fun ls' hl' => kk H locs ls' (hl.st2 (v := .long x) ha hl') hr hlo)
theorem jo_iinc (C : jCtx D M p s m args meth c) {a b : Nat} {k : Int} (h : jchk1 M pc 7 a b k n = true) {x : Int32} (hx : L[a]? = some (some (.int x))) (kk : jK D M p l e R s m args below meth c Q n1 s1 n (jst1 L a (.int (x + Int32.ofInt k))) st σ) : jK D M p l e R s m args below meth c Q n1 s1 pc L st σ := by
  intro H locs ls hl hr hlo
  have ha : a < jml M := by rw [← hl.2.2.1]; exact (List.getElem?_eq_some_iff.mp hx).1
  obtain ⟨j, hj⟩ := List.getElem?_of_mem (jps_mem (D := D) (q := (a, .int x)).mpr ⟨_, hx, rfl⟩)
  simp (decide := true) only [jchk1, reduceIte, Bool.or_eq_true, Bool.and_eq_true, decide_eq_true_eq] at h
  obtain ⟨h1, rfl⟩ := jdc_of h
  exact lv_iinc C.1 C.2.1 h1 hl.has hj rfl ha rfl (fun ls' hl' => kk H locs ls' (hl.st1 (v := .int (x + Int32.ofInt k)) ha hl') hr hlo)
theorem jo_bin (C : jCtx D M p s m args meth c) {a b : Nat} {k : Int} (h : jchk1 M pc 8 a b k n = true) {x y : Int32} (hz : ¬ (8 ≤ a ∧ y = 0)) (kk : jK D M p l e R s m args below meth c Q n1 s1 n L (.int (jbin a x y) :: st) σ) : jK D M p l e R s m args below meth c Q n1 s1 pc L (.int y :: .int x :: st) σ := by
  intro H locs ls hl hr hlo
  have kk := kk H locs ls hl hr hlo
  simp (decide := true) only [jchk1, reduceIte, Bool.or_eq_true, Bool.and_eq_true, decide_eq_true_eq] at h
  rcases h with ((((((((⟨rfl, h⟩ | ⟨rfl, h⟩) | ⟨rfl, h⟩) | ⟨rfl, h⟩) | ⟨rfl, h⟩) | ⟨rfl, h⟩) | ⟨rfl, h⟩) | ⟨rfl, h⟩) | ⟨rfl, h⟩) | ⟨rfl, h⟩
  · obtain ⟨h1, rfl⟩ := jdc_of h; exact lv_iadd C.1 C.2.1 h1 kk
  · obtain ⟨h1, rfl⟩ := jdc_of h; exact lv_isub C.1 C.2.1 h1 kk
  · obtain ⟨h1, rfl⟩ := jdc_of h; exact lv_imul C.1 C.2.1 h1 kk
  · obtain ⟨h1, rfl⟩ := jdc_of h; exact lv_iand C.1 C.2.1 h1 kk
  · obtain ⟨h1, rfl⟩ := jdc_of h; exact lv_ior C.1 C.2.1 h1 kk
  · obtain ⟨h1, rfl⟩ := jdc_of h; exact lv_ixor C.1 C.2.1 h1 kk
  · obtain ⟨h1, rfl⟩ := jdc_of h; exact lv_ishl C.1 C.2.1 h1 kk
  · obtain ⟨h1, rfl⟩ := jdc_of h; exact lv_ishr C.1 C.2.1 h1 kk
  · obtain ⟨h1, rfl⟩ := jdc_of h; exact lv_idiv C.1 C.2.1 h1 (fun q => hz ⟨Nat.le_refl 8, q⟩) kk
  · obtain ⟨h1, rfl⟩ := jdc_of h; exact lv_irem C.1 C.2.1 h1 (fun q => hz ⟨by decide, q⟩) kk
theorem jo_ineg (C : jCtx D M p s m args meth c) {a b : Nat} {k : Int} (h : jchk1 M pc 9 a b k n = true) {x : Int32} (kk : jK D M p l e R s m args below meth c Q n1 s1 n L (.int (-x) :: st) σ) : jK D M p l e R s m args below meth c Q n1 s1 pc L (.int x :: st) σ := by
  intro H locs ls hl hr hlo
  simp only [jchk1, if_pos, if_neg] at h
  obtain ⟨h1, rfl⟩ := jdc_of h
  exact lv_ineg C.1 C.2.1 h1 (kk H locs ls hl hr hlo)
theorem jo_i2l (C : jCtx D M p s m args meth c) {a b : Nat} {k : Int} (h : jchk1 M pc 10 a b k n = true) {x : Int32} (kk : jK D M p l e R s m args below meth c Q n1 s1 n L (.long x.toInt64 :: st) σ) : jK D M p l e R s m args below meth c Q n1 s1 pc L (.int x :: st) σ := by
  intro H locs ls hl hr hlo
  simp only [jchk1, if_pos, if_neg] at h
  obtain ⟨h1, rfl⟩ := jdc_of h
  exact lv_i2l C.1 C.2.1 h1 rfl (kk H locs ls hl hr hlo)
theorem jo_l2i (C : jCtx D M p s m args meth c) {a b : Nat} {k : Int} (h : jchk1 M pc 11 a b k n = true) {x : Int64} (kk : jK D M p l e R s m args below meth c Q n1 s1 n L (.int x.toInt32 :: st) σ) : jK D M p l e R s m args below meth c Q n1 s1 pc L (.long x :: st) σ := by
  intro H locs ls hl hr hlo
  simp only [jchk1, if_pos, if_neg] at h
  obtain ⟨h1, rfl⟩ := jdc_of h
  exact lv_l2i C.1 C.2.1 h1 rfl (kk H locs ls hl hr hlo)
theorem jo_lconst (C : jCtx D M p s m args meth c) {a b : Nat} {k : Int} (h : jchk1 M pc 12 a b k n = true) (kk : jK D M p l e R s m args below meth c Q n1 s1 n L (.long (Int64.ofInt k) :: st) σ) : jK D M p l e R s m args below meth c Q n1 s1 pc L st σ := by
  intro H locs ls hl hr hlo
  have kk := kk H locs ls hl hr hlo
  simp (decide := true) only [jchk1, reduceIte, Bool.or_eq_true, Bool.and_eq_true, decide_eq_true_eq] at h
  rcases h with (⟨rfl, h⟩ | ⟨rfl, h⟩) | ⟨h, hw⟩
  · obtain ⟨h1, rfl⟩ := jdc_of h
    exact lv_lconst C.1 C.2.1 h1 rfl kk
  · obtain ⟨h1, rfl⟩ := jdc_of h
    exact lv_lconst C.1 C.2.1 h1 rfl kk
  · obtain ⟨h1, rfl⟩ := jdc_of h
    exact lv_ldc2 C.1 C.2.1 C.2.2.2.1 (C.2.2.2.2.1 _ (jw_of hw rfl)) h1 kk
theorem jo_lmul (C : jCtx D M p s m args meth c) {a b : Nat} {k : Int} (h : jchk1 M pc 13 a b k n = true) {x y : Int64} (kk : jK D M p l e R s m args below meth c Q n1 s1 n L (.long (x * y) :: st) σ) : jK D M p l e R s m args below meth c Q n1 s1 pc L (.long y :: .long x :: st) σ := by
  intro H locs ls hl hr hlo
  simp only [jchk1, if_pos, if_neg] at h
  obtain ⟨h1, rfl⟩ := jdc_of h
  exact lv_lmul C.1 C.2.1 h1 (kk H locs ls hl hr hlo)
theorem jo_lcmp (C : jCtx D M p s m args meth c) {a b : Nat} {k : Int} (h : jchk1 M pc 14 a b k n = true) {x y : Int64} (kk : jK D M p l e R s m args below meth c Q n1 s1 n L (.int (lg_cmp x y) :: st) σ) : jK D M p l e R s m args below meth c Q n1 s1 pc L (.long y :: .long x :: st) σ := by
  intro H locs ls hl hr hlo
  simp only [jchk1, if_pos, if_neg] at h
  obtain ⟨h1, rfl⟩ := jdc_of h
  exact W.lcmp C.1 C.2.1 h1 (kk H locs ls hl hr hlo)
theorem jo_i2b (C : jCtx D M p s m args meth c) {a b : Nat} {k : Int} (h : jchk1 M pc 15 a b k n = true) {x : Int32} (kk : jK D M p l e R s m args below meth c Q n1 s1 n L (.int x.toInt8.toInt32 :: st) σ) : jK D M p l e R s m args below meth c Q n1 s1 pc L (.int x :: st) σ := by
  intro H locs ls hl hr hlo
  simp only [jchk1, if_pos, if_neg] at h
  obtain ⟨h1, rfl⟩ := jdc_of h
  exact lv_i2b C.1 C.2.1 h1 rfl (kk H locs ls hl hr hlo)
theorem jo_dup (C : jCtx D M p s m args meth c) {a b : Nat} {k : Int} (h : jchk1 M pc 16 a b k n = true) {v : Value} (hv : v.category = 1) (kk : jK D M p l e R s m args below meth c Q n1 s1 n L (v :: v :: st) σ) : jK D M p l e R s m args below meth c Q n1 s1 pc L (v :: st) σ := by
  intro H locs ls hl hr hlo
  simp only [jchk1, if_pos, if_neg] at h
  obtain ⟨h1, rfl⟩ := jdc_of h
  exact lv_dup C.1 C.2.1 h1 (by rw [jv_cat]; exact hv) (kk H locs ls hl hr hlo)
theorem jo_dup2 (C : jCtx D M p s m args meth c) {a b : Nat} {k : Int} (h : jchk1 M pc 17 a b k n = true) {v w : Value} (hv : v.category = 1 ∧ w.category = 1) (kk : jK D M p l e R s m args below meth c Q n1 s1 n L (v :: w :: v :: w :: st) σ) : jK D M p l e R s m args below meth c Q n1 s1 pc L (v :: w :: st) σ := by
  intro H locs ls hl hr hlo
  simp only [jchk1, if_pos, if_neg] at h
  obtain ⟨h1, rfl⟩ := jdc_of h
  exact lv_dup2_11 C.1 C.2.1 h1 (by rw [jv_cat]; exact hv.1) (by rw [jv_cat]; exact hv.2) (kk H locs ls hl hr hlo)
theorem jo_pop (C : jCtx D M p s m args meth c) {a b : Nat} {k : Int} (h : jchk1 M pc 18 a b k n = true) {v : Value} (hv : v.category = 1) (kk : jK D M p l e R s m args below meth c Q n1 s1 n L st σ) : jK D M p l e R s m args below meth c Q n1 s1 pc L (v :: st) σ := by
  intro H locs ls hl hr hlo
  simp only [jchk1, if_pos, if_neg] at h
  obtain ⟨h1, rfl⟩ := jdc_of h
  exact lv_pop C.1 C.2.1 h1 (by rw [jv_cat]; exact hv) (kk H locs ls hl hr hlo)
theorem jo_if (C : jCtx D M p s m args meth c) {a b : Nat} {k : Int} (h : jchk1 M pc 19 a b k n = true) {x : Int32} (kt : jcnb a x 0 = true → jK D M p l e R s m args below meth c Q n1 s1 b L st σ) (kf : ¬ jcnb a x 0 = true → jK D M p l e R s m args below meth c Q n1 s1 n L st σ) : jK D M p l e R s m args below meth c Q n1 s1 pc L (.int x :: st) σ := by
  intro H locs ls hl hr hlo
  simp (decide := true) only [jchk1, reduceIte, Bool.or_eq_true, Bool.and_eq_true, decide_eq_true_eq] at h
  have kt := fun q => kt q H locs ls hl hr hlo
  have kf := fun q => kf q H locs ls hl hr hlo
  rcases h with ((((⟨rfl, h⟩ | ⟨rfl, h⟩) | ⟨rfl, h⟩) | ⟨rfl, h⟩) | ⟨rfl, h⟩) | ⟨rfl, h⟩ <;> obtain ⟨h1, rfl⟩ := jdc_of h
  · exact lv_if_eq C.1 C.2.1 h1 (by omega) (fun q => kt (by simp [jcnb, q])) (fun q => kf (by simp [jcnb, q]))
  · exact lv_if_ne C.1 C.2.1 h1 (by omega) (fun q => kt (by simp [jcnb, q])) (fun q => kf (by simp [jcnb, q]))
  · exact lv_if_lt C.1 C.2.1 h1 (by omega) (fun q => kt (by simp [jcnb, q])) (fun q => kf (by simp [jcnb, q]))
  · exact lv_if_ge C.1 C.2.1 h1 (by omega) (fun q => kt (by simp [jcnb, q])) (fun q => kf (by simp [jcnb, q]))
  · exact lv_if_gt C.1 C.2.1 h1 (by omega) (fun q => kt (by simp [jcnb, q])) (fun q => kf (by simp [jcnb, q]))
  · exact lv_if_le C.1 C.2.1 h1 (by omega) (fun q => kt (by simp [jcnb, q])) (fun q => kf (by simp [jcnb, q]))
theorem jo_icmp (C : jCtx D M p s m args meth c) {a b : Nat} {k : Int} (h : jchk1 M pc 20 a b k n = true) {x y : Int32} (kt : jcnb a x y = true → jK D M p l e R s m args below meth c Q n1 s1 b L st σ) (kf : ¬ jcnb a x y = true → jK D M p l e R s m args below meth c Q n1 s1 n L st σ) : jK D M p l e R s m args below meth c Q n1 s1 pc L (.int y :: .int x :: st) σ := by
  intro H locs ls hl hr hlo
  simp (decide := true) only [jchk1, reduceIte, Bool.or_eq_true, Bool.and_eq_true, decide_eq_true_eq] at h
  have kt := fun q => kt q H locs ls hl hr hlo
  have kf := fun q => kf q H locs ls hl hr hlo
  rcases h with ((((⟨rfl, h⟩ | ⟨rfl, h⟩) | ⟨rfl, h⟩) | ⟨rfl, h⟩) | ⟨rfl, h⟩) | ⟨rfl, h⟩ <;> obtain ⟨h1, rfl⟩ := jdc_of h
  · exact lv_icmp_eq C.1 C.2.1 h1 (by omega) (fun q => kt (by simp [jcnb, q])) (fun q => kf (by simp [jcnb, q]))
  · exact lv_icmp_ne C.1 C.2.1 h1 (by omega) (fun q => kt (by simp [jcnb, q])) (fun q => kf (by simp [jcnb, q]))
  · exact lv_icmp_lt C.1 C.2.1 h1 (by omega) (fun q => kt (by simp [jcnb, q])) (fun q => kf (by simp [jcnb, q]))
  · exact lv_icmp_ge C.1 C.2.1 h1 (by omega) (fun q => kt (by simp [jcnb, q])) (fun q => kf (by simp [jcnb, q]))
  · exact lv_icmp_gt C.1 C.2.1 h1 (by omega) (fun q => kt (by simp [jcnb, q])) (fun q => kf (by simp [jcnb, q]))
  · exact lv_icmp_le C.1 C.2.1 h1 (by omega) (fun q => kt (by simp [jcnb, q])) (fun q => kf (by simp [jcnb, q]))
theorem jo_goto (C : jCtx D M p s m args meth c) {a b : Nat} {k : Int} (h : jchk1 M pc 21 a b k n = true) (kk : jK D M p l e R s m args below meth c Q n1 s1 b L st σ) : jK D M p l e R s m args below meth c Q n1 s1 pc L st σ := by
  intro H locs ls hl hr hlo
  simp only [jchk1, if_pos, if_neg] at h
  obtain ⟨h1, rfl⟩ := jdc_of h
  exact lv_goto C.1 C.2.1 h1 (by omega) (kk H locs ls hl hr hlo)
theorem jo_ifnull (C : jCtx D M p s m args meth c) {a b : Nat} {k : Int} (h : jchk1 M pc 22 a b k n = true) {x : Nat} (kk : jK D M p l e R s m args below meth c Q n1 s1 n L st σ) : jK D M p l e R s m args below meth c Q n1 s1 pc L (.ref x :: st) σ := by
  intro H locs ls hl hr hlo
  simp only [jchk1, if_pos, if_neg] at h
  obtain ⟨h1, rfl⟩ := jdc_of h
  exact lv_ifnull C.1 C.2.1 h1 (kk H locs ls hl hr hlo)
theorem jo_ifnullN (C : jCtx D M p s m args meth c) {a b : Nat} {k : Int} (h : jchk1 M pc 22 a b k n = true) (kk : jK D M p l e R s m args below meth c Q n1 s1 b L st σ) : jK D M p l e R s m args below meth c Q n1 s1 pc L (.null :: st) σ := by
  intro H locs ls hl hr hlo
  simp only [jchk1, if_pos, if_neg] at h
  obtain ⟨h1, rfl⟩ := jdc_of h
  exact lv_ifnullN C.1 C.2.1 h1 (by omega) (kk H locs ls hl hr hlo)
theorem jo_ifnn (C : jCtx D M p s m args meth c) {a b : Nat} {k : Int} (h : jchk1 M pc 23 a b k n = true) {x : Nat} (kk : jK D M p l e R s m args below meth c Q n1 s1 b L st σ) : jK D M p l e R s m args below meth c Q n1 s1 pc L (.ref x :: st) σ := by
  intro H locs ls hl hr hlo
  simp only [jchk1, if_pos, if_neg] at h
  obtain ⟨h1, rfl⟩ := jdc_of h
  exact lv_ifnonnull C.1 C.2.1 h1 (by omega) (kk H locs ls hl hr hlo)
theorem jo_ifnnN (C : jCtx D M p s m args meth c) {a b : Nat} {k : Int} (h : jchk1 M pc 23 a b k n = true) (kk : jK D M p l e R s m args below meth c Q n1 s1 n L st σ) : jK D M p l e R s m args below meth c Q n1 s1 pc L (.null :: st) σ := by
  intro H locs ls hl hr hlo
  simp only [jchk1, if_pos, if_neg] at h
  obtain ⟨h1, rfl⟩ := jdc_of h
  exact lv_ifnonnullN C.1 C.2.1 h1 (kk H locs ls hl hr hlo)
theorem jo_null (C : jCtx D M p s m args meth c) {a b : Nat} {k : Int} (h : jchk1 M pc 24 a b k n = true) (kk : jK D M p l e R s m args below meth c Q n1 s1 n L (.null :: st) σ) : jK D M p l e R s m args below meth c Q n1 s1 pc L st σ := by
  intro H locs ls hl hr hlo
  simp only [jchk1, if_pos, if_neg] at h
  obtain ⟨h1, rfl⟩ := jdc_of h
  exact lv_null C.1 C.2.1 h1 (kk H locs ls hl hr hlo)
end JO
