/-! how the J machine's cells stand in the heap -/
abbrev jD : Type := (Nat → ClassId) × (Nat → Nat → Nat) × (Nat → ClassId) × (Nat → Nat) × Nat
def jn0 (D : jD) : Nat := D.2.2.2.2
def jdA (D : jD) (t : Nat) : ClassId := D.2.2.1 t
def jloc (D : jD) (a : Nat) : Nat := if a < 16 then D.2.2.2.1 a else D.2.2.2.2 + (a - 16)
def jv (D : jD) : Value → Value
  | .ref a => .ref (jloc D a)
  | v => v
theorem jv_int (D : jD) (x : Int32) : jv D (.int x) = .int x := rfl
theorem jv_long (D : jD) (x : Int64) : jv D (.long x) = .long x := rfl
theorem jv_ref (D : jD) (a : Nat) : jv D (.ref a) = .ref (jloc D a) := rfl
theorem jv_null (D : jD) : jv D .null = .null := rfl
theorem jv_cat (D : jD) (v : Value) : (jv D v).category = v.category := by cases v <;> rfl
theorem jcs_sum (D : jD) (st : List Value) : ((st.map (jv D)).map fun v => v.category).sum = jcs st := by
  induction st with
  | nil => rfl
  | cons v t ih => simp only [List.map_cons, List.sum_cons, jcs, jv_cat, ih]
theorem jloc_inj {D : jD} {a b : Nat} (ha : 16 ≤ a) (hb : 16 ≤ b) (h : jloc D a = jloc D b) : a = b := by
  unfold jloc at h
  rw [if_neg (by omega), if_neg (by omega)] at h
  omega
theorem jloc_ge {D : jD} {a : Nat} (ha : 16 ≤ a) : jn0 D ≤ jloc D a := by
  unfold jloc jn0
  rw [if_neg (by omega)]
  omega
theorem jloc_s {D : jD} {a : Nat} (ha : 16 ≤ a) : jloc D (a + 1) = jloc D a + 1 := by
  unfold jloc
  rw [if_neg (by omega), if_neg (by omega)]
  omega
theorem jloc_lt {D : jD} {a b : Nat} (ha : 16 ≤ a) (h : a < b) : jloc D a < jloc D b := by
  unfold jloc
  rw [if_neg (by omega), if_neg (by omega)]
  omega
/-- what was there before and stays: the static rows, the names -/
def jA0 (D : jD) : Nat → Prop := fun q => jn0 D ≤ q
def jOl (D : jD) (r : Option Nat) (U : State) (H : Heap) : Prop :=
  va_Z "RuleMill" "REGISTERS_OF" "[I" (.ref (jloc D 1)) (jA0 D) U H ∧ va_Z "RuleMill" "PRICES" "[I" (.ref (jloc D 2)) (jA0 D) U H ∧ va_Z "java/lang/String" "COMPACT_STRINGS" "Z" (.int 1) (jA0 D) U H ∧
  va_Z "jdk/internal/util/Preconditions" "SIOOBE_FORMATTER" "Ljava/util/function/BiFunction;" (jv D (va_rf r)) (jA0 D) U H ∧ vk_S 1 [57] [jnml] (fun _ => jloc D 3) (fun _ => jloc D 4) (jA0 D) U H
theorem jOl.kept {D : jD} {r : Option Nat} {U : State} {H H' : Heap} (h : jOl D r U H) (hq : ∀ x, x < H.size → ¬ jn0 D ≤ x → H'[x]? = H[x]?) : jOl D r U H' :=
  ⟨h.1.kept hq, h.2.1.kept hq, h.2.2.1.kept hq, h.2.2.2.1.kept hq, h.2.2.2.2.kept hq⟩
theorem jOl.moved {D : jD} {r : Option Nat} {u U : State} {H : Heap} (hvm : u.vm.Alike U.vm) (h : jOl D r u H) : jOl D r U H :=
  ⟨h.1.moved hvm, h.2.1.moved hvm, h.2.2.1.moved hvm, h.2.2.2.1.moved hvm, h.2.2.2.2.moved hvm⟩
def jcell (D : jD) (σ : jS) (s : State) (H : Heap) (a : Nat) : Prop :=
  (∀ (ci : Nat) (c : vw_C), jcl[ci]? = some c → jT σ a = 1 + ci → 16 ≤ a ∧ a < jnx σ ∧ t_OB (jloc D a) (D.1 ci) c.2.2 (D.2.1 ci) H (fun j => jv D (jfv σ (64 * ci + j) a))) ∧
  (20 ≤ jT σ a → jT σ a ≤ 22 → 16 ≤ a ∧ a < jnx σ ∧ H[jloc D a]? = some (arrV (jdA D (jT σ a)) (jN σ a) (fun j => .int (jA σ a j)))) ∧
  (30 ≤ jT σ a → jT σ a < 50 → 16 ≤ a ∧ a < jnx σ ∧ (jT σ a = 34 ∨ jT σ a = 35) ∧ H[jloc D a]? = some (arrV (jdA D (jT σ a)) (jN σ a) (fun j => jv D (va_rf (jG σ a j))))) ∧
  (jT σ a = 60 → a < 16 ∧ jloc D a < jn0 D ∧ ∃ cell : Cell, H[jloc D a]? = some cell ∧ s.isArrayOf cell .int ∧ cell.vm ≠ .unknown ∧ (jN σ a ≤ cell.slots.size ∧ cell.slots.size.toInt32 = Int32.ofNat (jN σ a)) ∧ ∀ j : Nat, j < jN σ a → cell.slots[j]? = some (.int (jA σ a j))) ∧
  (jT σ a < 23 ∨ (30 ≤ jT σ a ∧ jT σ a < 50) ∨ jT σ a = 60 ∨ (jT σ a = 61 ∧ a = 3 ∧ jOl D (jR σ 0 3) s H))
def jRel (D : jD) (σ : jS) (s : State) (H : Heap) : Prop := H.size = jloc D (jnx σ) ∧ 16 ≤ jnx σ ∧ ∀ a : Nat, jcell D σ s H a
theorem jcell.kept {D : jD} {σ σ' : jS} {s : State} {H H' : Heap} {a : Nat} (h : jcell D σ s H a) (hT : jT σ' a = jT σ a) (hN : jN σ' a = jN σ a) (hI : ∀ g, jI σ' g a = jI σ g a) (hR : ∀ g, jR σ' g a = jR σ g a) (hA : ∀ i, jA σ' a i = jA σ a i) (hG : ∀ i, jG σ' a i = jG σ a i) (hn : jnx σ ≤ jnx σ')
    (hH : (16 ≤ a ∧ a < jnx σ) ∨ (a < 16 ∧ jloc D a < jn0 D) → H'[jloc D a]? = H[jloc D a]?) (hO : ∀ x, x < H.size → ¬ jn0 D ≤ x → H'[x]? = H[x]?) : jcell D σ' s H' a := by
  obtain ⟨h1, h2, h3, h4, h5⟩ := h
  refine ⟨fun ci c hc ht => ?_, fun t1 t2 => ?_, fun t1 t2 => ?_, fun t => ?_, ?_⟩
  · rw [hT] at ht
    obtain ⟨a1, a2, a3⟩ := h1 ci c hc ht
    refine ⟨a1, by omega, (a3.kept (hH (Or.inl ⟨a1, a2⟩))).to (fun j _ => ?_)⟩
    simp only [jfv, hI, hR]
  · rw [hT] at t1 t2 ⊢
    obtain ⟨a1, a2, a3⟩ := h2 t1 t2
    refine ⟨a1, by omega, ?_⟩
    rw [hH (Or.inl ⟨a1, a2⟩), a3, hN]
    simp only [hA]
  · rw [hT] at t1 t2 ⊢
    obtain ⟨a1, a2, a4, a3⟩ := h3 t1 t2
    refine ⟨a1, by omega, a4, ?_⟩
    rw [hH (Or.inl ⟨a1, a2⟩), a3, hN]
    simp only [hG]
  · rw [hT] at t
    obtain ⟨a1, a2, cell, a3, a4, a5, a6, a7⟩ := h4 t
    refine ⟨a1, a2, cell, by rw [hH (Or.inr ⟨a1, a2⟩)]; exact a3, a4, a5, by rw [hN]; exact a6, fun j hj => ?_⟩
    rw [hN] at hj
    rw [hA]
    exact a7 j hj
  · rw [hT]
    rcases h5 with h | h | h | ⟨h, h3, ho⟩
    · exact Or.inl h
    · exact Or.inr (Or.inl h)
    · exact Or.inr (Or.inr (Or.inl h))
    · subst h3
      refine Or.inr (Or.inr (Or.inr ⟨h, rfl, ?_⟩))
      rw [hR 0]
      exact ho.kept hO
theorem jRel.moved {D : jD} {σ : jS} {u U : State} {H : Heap} (hvm : u.vm.Alike U.vm) (h : jRel D σ u H) : jRel D σ U H := by
  obtain ⟨h1, h2, h3⟩ := h
  refine ⟨h1, h2, fun a => ?_⟩
  obtain ⟨a1, a2, a3, a4, a5⟩ := h3 a
  refine ⟨a1, a2, a3, fun t => ?_, ?_⟩
  · obtain ⟨b1, b2, cell, b3, b4, b5⟩ := a4 t
    exact ⟨b1, b2, cell, b3, State.isArrayOf_alike hvm b4, b5⟩
  · rcases a5 with h | h | h | ⟨h, h3, ho⟩
    · exact Or.inl h
    · exact Or.inr (Or.inl h)
    · exact Or.inr (Or.inr (Or.inl h))
    · exact Or.inr (Or.inr (Or.inr ⟨h, h3, ho.moved hvm⟩))
theorem jRel.old {D : jD} {σ : jS} {s : State} {H : Heap} (h : jRel D σ s H) (hT : jT σ 3 = 61) : jOl D (jR σ 0 3) s H := by
  rcases (h.2.2 3).2.2.2.2 with q | q | q | ⟨-, -, ho⟩
  · omega
  · omega
  · omega
  · exact ho
/-- which words of the tables go along into a call -/
def jw : List Jvm.Cond := lw_tbl.filter goodWord
def jnest : Jvm.Cond → Bool
  | .methodLinkNest _ _ _ _ => true
  | _ => false
theorem jw_of {i : Nat} {w : Jvm.Cond} (h : jwd i w = true) (hg : goodWord w = true) : w ∈ jw := by
  unfold jwd at h
  have h1 := of_decide_eq_true h
  exact List.mem_filter.mpr ⟨List.mem_of_getElem? h1, hg⟩
theorem jw_good {w : Jvm.Cond} (h : w ∈ jw) : (w.onTables && w.keeps) = true ∨ ∃ ty, w = .arrayClass ty := good_of_word (List.mem_filter.mp h).2
def jKn (D : jD) (U : State) : Prop :=
  (∀ (ci : Nat) (c : vw_C), jcl[ci]? = some c → u_Kn U c.1 c.2.1 c.2.2 (D.1 ci) (D.2.1 ci)) ∧
  (∀ t : Nat, t < 3 → ArrOfT U (jdA D (20 + t)) (newarray.typeOf (jat t)) ∧ U.vm.findClass ("[" ++ (newarray.typeOf (jat t)).toString) = some (jdA D (20 + t))) ∧
  (∀ (ci : Nat) (c : vw_C), jcl[ci]? = some c → ci = 4 ∨ ci = 5 → ArrOfT U (jdA D (30 + ci)) (.object c.1) ∧ va_RA U (jdA D (30 + ci)) (.object c.1) ∧ va_AO c.1 U) ∧
  (∀ w ∈ lw_tbl, jnest w = true → va_Nw w U) ∧ vk_R "RuleMill$Reader" 163 jNAMES (jloc D 3) U ∧ vk_R "RuleMill$Row" 93 jNAMES (jloc D 3) U
theorem jKn.warm {D : jD} {s U : State} (hW : s.WarmedH U.vm) (h : jKn D s) : jKn D U := by
  obtain ⟨h1, h2, h3, h4, h5, h6⟩ := h
  refine ⟨fun ci c hc => u_Kn_moved hW.alike (h1 ci c hc), fun t ht => ⟨arrOfT_moved hW.alike (h2 t ht).1, by rw [hW.alike.findClass]; exact (h2 t ht).2⟩, fun ci c hc hi => ?_, fun w hw hn => ?_, h5.warm hW, h6.warm hW⟩
  · obtain ⟨a1, a2, a3⟩ := h3 ci c hc hi
    exact ⟨arrOfT_moved hW.alike a1, a2.moved hW.alike, a3.moved hW.alike⟩
  · have h5 := h4 w hw hn
    cases w <;> first | exact va_Nw.warmM hW h5 | cases hn
theorem jKn.same {D : jD} {u U : State} (h : u.vm = U.vm) (hk : jKn D u) : jKn D U := by
  have hal : u.vm.Alike U.vm := by rw [h]; exact Vm.Alike.refl _
  obtain ⟨h1, h2, h3, h4, h5, h6⟩ := hk
  refine ⟨fun ci c hc => u_Kn_moved hal (h1 ci c hc), fun t ht => ⟨arrOfT_moved hal (h2 t ht).1, by rw [hal.findClass]; exact (h2 t ht).2⟩, fun ci c hc hi => ?_, fun w hw hn => ?_, h5.same h.symm, h6.same h.symm⟩
  · obtain ⟨a1, a2, a3⟩ := h3 ci c hc hi
    exact ⟨arrOfT_moved hal a1, a2.moved hal, a3.moved hal⟩
  · have h5 := h4 w hw hn
    cases w <;> first | exact va_Nw.same rfl h h5 | cases hn
/-- the fields' words of each kind of object are in the table -/
theorem jclw : jcl.all (fun c => (u_ws c.1 c.2.1 c.2.2).all (fun w => decide (w ∈ lw_tbl) && goodWord w) && decide (Jvm.Cond.instantiable c.1 c.2.2 ∈ lw_tbl) && decide (Jvm.Cond.initialized c.1 ∈ lw_tbl)) = true := by decide +kernel
theorem jcl_ws {ci : Nat} {c : vw_C} (hc : jcl[ci]? = some c) : (∀ w ∈ u_ws c.1 c.2.1 c.2.2, w ∈ jw) ∧ Jvm.Cond.instantiable c.1 c.2.2 ∈ lw_tbl ∧ Jvm.Cond.initialized c.1 ∈ lw_tbl := by
  have h := List.all_eq_true.mp jclw c (List.mem_of_getElem? hc)
  simp only [Bool.and_eq_true, decide_eq_true_eq] at h
  refine ⟨fun w hw => ?_, h.1.2, h.2⟩
  have h2 := List.all_eq_true.mp h.1.1 w hw
  simp only [Bool.and_eq_true, decide_eq_true_eq] at h2
  exact List.mem_filter.mpr h2
theorem jcl_64 {ci : Nat} {c : vw_C} (hc : jcl[ci]? = some c) : c.2.2 ≤ 64 := by
  have h : jcl.all (fun c => decide (c.2.2 ≤ 64)) = true := by decide +kernel
  exact of_decide_eq_true (List.all_eq_true.mp h c (List.mem_of_getElem? hc))
theorem jcl_ty {ci : Nat} {c : vw_C} (hc : jcl[ci]? = some c) : ∀ k, k < c.2.2 → parseFieldDescriptor (c.2.1 k).2.2.1 = some (jty (64 * ci + k)) := by
  have key : jcl.length ≤ 11 := by decide
  have hl : ci < 11 := Nat.lt_of_lt_of_le (List.getElem?_eq_some_iff.mp hc).1 key
  have h64 : ∀ k, k < 64 → jty (64 * ci + k) = jtys.getD ci (fun _ => .int) k := by
    intro k hk
    unfold jty
    rw [show (64 * ci + k) / 64 = ci by omega, show (64 * ci + k) % 64 = k by omega]
  intro k hk
  have hk64 : k < 64 := Nat.lt_of_lt_of_le hk (jcl_64 hc)
  match ci, hl, hc, h64 with
  | 0, _, hc, h64 => cases hc; rw [h64 k hk64]; exact tyX0_ok k hk
  | 1, _, hc, h64 => cases hc; rw [h64 k hk64]; exact tyX1_ok k hk
  | 2, _, hc, h64 => cases hc; rw [h64 k hk64]; exact tyX2_ok k hk
  | 3, _, hc, h64 => cases hc; rw [h64 k hk64]; exact tyX3_ok k hk
  | 4, _, hc, h64 => cases hc; rw [h64 k hk64]; exact tyX4_ok k hk
  | 5, _, hc, h64 => cases hc; rw [h64 k hk64]; exact tyX5_ok k hk
  | 6, _, hc, h64 => cases hc; rw [h64 k hk64]; exact tyX6_ok k hk
  | 7, _, hc, h64 => cases hc; rw [h64 k hk64]; exact tyX7_ok k hk
  | 8, _, hc, h64 => cases hc; rw [h64 k hk64]; exact tyX8_ok k hk
  | 9, _, hc, h64 => cases hc; rw [h64 k hk64]; exact tyX9_ok k hk
  | 10, _, hc, h64 => cases hc; rw [h64 k hk64]; exact tyX10_ok k hk
theorem jcl_nm {ci : Nat} {c : vw_C} (hc : jcl[ci]? = some c) : ∀ a, a < c.2.2 → ∀ b, b < c.2.2 → a ≠ b → (c.2.1 a).2.1 ≠ (c.2.1 b).2.1 := by
  have key : jcl.length ≤ 11 := by decide
  have hl : ci < 11 := Nat.lt_of_lt_of_le (List.getElem?_eq_some_iff.mp hc).1 key
  match ci, hl, hc with
  | 0, _, hc => cases hc; exact nmX0
  | 1, _, hc => cases hc; exact nmX1
  | 2, _, hc => cases hc; exact nmX2
  | 3, _, hc => cases hc; exact nmX3
  | 4, _, hc => cases hc; exact nmX4
  | 5, _, hc => cases hc; exact nmX5
  | 6, _, hc => cases hc; exact nmX6
  | 7, _, hc => cases hc; exact nmX7
  | 8, _, hc => cases hc; exact nmX8
  | 9, _, hc => cases hc; exact nmX9
  | 10, _, hc => cases hc; exact nmX10
/-! locals -/
def jl (D : jD) (ls : Array Slot) (n : Nat) (L : jL) : Prop := ls.size = n ∧ lv_wf ls ∧ L.length = n ∧ ∀ (i : Nat) (v : Value), L[i]? = some (some v) → ls[i]? = some (.val (jv D v))
def jpo (D : jD) (L : jL) (i : Nat) : Option (Nat × Value) := (L[i]?.join).map (fun v => (i, jv D v))
def jps (D : jD) (L : jL) : List (Nat × Value) := (List.range L.length).filterMap (jpo D L)
theorem jps_mem {D : jD} {L : jL} {q : Nat × Value} : q ∈ jps D L ↔ ∃ v, L[q.1]? = some (some v) ∧ q.2 = jv D v := by
  unfold jps
  rw [List.mem_filterMap]
  constructor
  · rintro ⟨i, -, h⟩
    unfold jpo at h
    rcases hL : L[i]? with _ | _ | v
    · rw [hL] at h; cases h
    · rw [hL] at h; cases h
    · rw [hL] at h; cases h; exact ⟨v, hL, rfl⟩
  · rintro ⟨v, h1, h2⟩
    refine ⟨q.1, List.mem_range.mpr (List.getElem?_eq_some_iff.mp h1).1, ?_⟩
    unfold jpo
    rw [h1]
    simp [← h2]
theorem jl.has {D : jD} {ls : Array Slot} {n : Nat} {L : jL} (h : jl D ls n L) : lv_has ls n (jps D L) := by
  refine ⟨h.1, h.2.1, fun q hq => ?_⟩
  obtain ⟨v, h1, h2⟩ := jps_mem.mp hq
  rw [h2]
  exact h.2.2.2 q.1 v h1
theorem jclr_len (L : jL) (i : Nat) : (jclr L i).length = L.length := by
  unfold jclr
  split
  · rfl
  · split
    · split
      · simp
      · rfl
    · rfl
theorem jclr_get {L : jL} {i j : Nat} {w : Value} (h : (jclr L i)[j]? = some (some w)) : L[j]? = some (some w) ∧ ¬ (j + 1 = i ∧ w.category = 2) := by
  cases i with
  | zero => exact ⟨h, by omega⟩
  | succ i =>
    simp only [jclr] at h
    split at h
    · rename_i u hu
      split at h
      · by_cases hj : j = i
        · subst hj
          have hl := (List.getElem?_eq_some_iff.mp hu).1
          rw [List.getElem?_set_self hl] at h
          cases h
        · rw [List.getElem?_set_ne (Ne.symm hj)] at h
          exact ⟨h, by omega⟩
      · rename_i hc
        refine ⟨h, ?_⟩
        rintro ⟨a, b⟩
        have : j = i := by omega
        subst this
        rw [hu] at h
        cases h
        exact hc b
    · rename_i hu
      refine ⟨h, ?_⟩
      rintro ⟨a, b⟩
      have : j = i := by omega
      subst this
      exact hu w h
theorem jl.st1 {D : jD} {ls ls' : Array Slot} {n i : Nat} {L : jL} {v : Value} (h : jl D ls n L) (hi : i < n) (h' : lv_has ls' n ((i, jv D v) :: (jps D L).filter (fun q => !(q.1 == i) && !(q.1 + 1 == i && q.2.category == 2)))) : jl D ls' n (jst1 L i v) := by
  refine ⟨h'.1, h'.2.1, ?_, fun j w hj => ?_⟩
  · simp only [jst1, List.length_set, jclr_len]; exact h.2.2.1
  · by_cases hji : j = i
    · subst hji
      have hl : j < (jclr L j).length := by rw [jclr_len, h.2.2.1]; exact hi
      simp only [jst1, List.getElem?_set_self hl] at hj
      cases hj
      exact h'.2.2 (j, jv D v) List.mem_cons_self
    · simp only [jst1] at hj
      rw [List.getElem?_set_ne (Ne.symm hji)] at hj
      obtain ⟨h1, h2⟩ := jclr_get hj
      refine h'.2.2 (j, jv D w) (List.mem_cons_of_mem _ (List.mem_filter.mpr ⟨jps_mem.mpr ⟨w, h1, rfl⟩, ?_⟩))
      simp only [jv_cat, Bool.and_eq_true, Bool.not_eq_true', beq_eq_false_iff_ne, ne_eq, Bool.and_eq_false_iff]
      refine ⟨hji, ?_⟩
      by_cases a : j + 1 = i
      · exact Or.inr (fun b => h2 ⟨a, b⟩)
      · exact Or.inl a
theorem jl.st2 {D : jD} {ls ls' : Array Slot} {n i : Nat} {L : jL} {v : Value} (h : jl D ls n L) (hi : i + 1 < n) (h' : lv_has ls' n ((i, jv D v) :: (jps D L).filter (fun q => !(q.1 == i) && (!(q.1 == i + 1) && !(q.1 + 1 == i && q.2.category == 2))))) : jl D ls' n (jst2 L i v) := by
  refine ⟨h'.1, h'.2.1, ?_, fun j w hj => ?_⟩
  · simp only [jst2, List.length_set, jclr_len]; exact h.2.2.1
  · simp only [jst2] at hj
    by_cases hj1 : j = i + 1
    · subst hj1
      have hl : i + 1 < ((jclr L i).set i (some v)).length := by rw [List.length_set, jclr_len, h.2.2.1]; exact hi
      rw [List.getElem?_set_self hl] at hj
      cases hj
    · rw [List.getElem?_set_ne (Ne.symm hj1)] at hj
      by_cases hji : j = i
      · subst hji
        have hl : j < (jclr L j).length := by rw [jclr_len, h.2.2.1]; omega
        rw [List.getElem?_set_self hl] at hj
        cases hj
        exact h'.2.2 (j, jv D v) List.mem_cons_self
      · rw [List.getElem?_set_ne (Ne.symm hji)] at hj
        obtain ⟨h1, h2⟩ := jclr_get hj
        refine h'.2.2 (j, jv D w) (List.mem_cons_of_mem _ (List.mem_filter.mpr ⟨jps_mem.mpr ⟨w, h1, rfl⟩, ?_⟩))
        simp only [jv_cat, Bool.and_eq_true, Bool.not_eq_true', beq_eq_false_iff_ne, ne_eq, Bool.and_eq_false_iff]
        refine ⟨hji, hj1, ?_⟩
        by_cases a : j + 1 = i
        · exact Or.inr (fun b => h2 ⟨a, b⟩)
        · exact Or.inl a
