/-! the instructions that meet what was there before; arraycopy -/
section JN
variable {D : jD} {M : Nat} {p : Program} {l : Launch} {e : Env} {R : Room} {s : State} {m : MethodId} {args : Array Value} {below : List Frame} {meth : Method} {c : Code} {Q : State → Prop} {n1 s1 pc n : Nat} {L : jL} {st : List Value} {σ σ1 : jS} {r : Option Value}
theorem jo_getsA (C : jCtx D M p s m args meth c) {a b : Nat} {k : Int} (h : jchk4 M pc 52 a b k n = true) (ha : a = 1 ∨ a = 2) (hT : jT σ 3 = 61) (kk : jK D M p l e R s m args below meth c Q n1 s1 n L (.ref a :: st) σ) : jK D M p l e R s m args below meth c Q n1 s1 pc L st σ := by
  intro H locs ls hl hr hlo
  have kk := kk H locs ls hl hr hlo
  have hO := hr.old hT
  have h : (jdc M pc (.getstatic b) 3 n && jwd k.toNat (.fieldLink (jown M) b "RuleMill" (if a = 1 then "REGISTERS_OF" else "PRICES") "[I")) = true := h
  rw [Bool.and_eq_true] at h
  obtain ⟨h1, rfl⟩ := jdc_of h.1
  obtain ⟨hx, hb, hml, hown, hts, hK, hin⟩ := C
  have hw := hts _ (jw_of h.2 rfl)
  rcases ha with rfl | rfl
  · obtain ⟨cf, kf, fi, f, a, cell, g1, g2, g3, g4, g5, g6, g7, g8⟩ := hO.1
    exact W.gets hx hb hown hw g1 g2 g3 g4 g5 (fun e => by rw [e] at g6; cases g6) g7 rfl h1 kk
  · obtain ⟨cf, kf, fi, f, a, cell, g1, g2, g3, g4, g5, g6, g7, g8⟩ := hO.2.1
    exact W.gets hx hb hown hw g1 g2 g3 g4 g5 (fun e => by rw [e] at g6; cases g6) g7 rfl h1 kk
theorem jo_ldcs (C : jCtx D M p s m args meth c) {a b : Nat} {k : Int} (h : jchk4 M pc 53 a b k n = true) (kk : jK D M p l e R s m args below meth c Q n1 s1 n L (.ref 3 :: st) σ) : jK D M p l e R s m args below meth c Q n1 s1 pc L st σ := by
  intro H locs ls hl hr hlo
  have kk := kk H locs ls hl hr hlo
  have h : (jdc M pc (.ldc b) 2 n && (decide (jown M = "RuleMill$Reader" ∧ b = 163) || decide (jown M = "RuleMill$Row" ∧ b = 93))) = true := h
  simp only [Bool.and_eq_true, Bool.or_eq_true, decide_eq_true_eq] at h
  obtain ⟨h1, rfl⟩ := jdc_of h.1
  obtain ⟨hx, hb, hml, hown, hts, hK, hin⟩ := C
  rcases h.2 with ⟨g1, rfl⟩ | ⟨g1, rfl⟩
  · rw [g1] at hown
    exact va_ldcS hx hb hown hK.2.2.2.2.1 h1 kk
  · rw [g1] at hown
    exact va_ldcS hx hb hown hK.2.2.2.2.2 h1 kk
theorem jo_getsI (C : jCtx D M p s m args meth c) {a b : Nat} {k : Int} (h : jchk4 M pc 55 a b k n = true) (hT : jT σ 3 = 61) (kk : jK D M p l e R s m args below meth c Q n1 s1 n L (.int 1 :: st) σ) : jK D M p l e R s m args below meth c Q n1 s1 pc L st σ := by
  intro H locs ls hl hr hlo
  have kk := kk H locs ls hl hr hlo
  have hO := hr.old hT
  have h : (jdc M pc (.getstatic b) 3 n && jwd k.toNat (.fieldLink (jown M) b "java/lang/String" "COMPACT_STRINGS" "Z")) = true := h
  rw [Bool.and_eq_true] at h
  obtain ⟨h1, rfl⟩ := jdc_of h.1
  obtain ⟨hx, hb, hml, hown, hts, hK, hin⟩ := C
  obtain ⟨cf, kf, fi, f, a, cell, g1, g2, g3, g4, g5, g6, g7, g8⟩ := hO.2.2.1
  exact W.gets hx hb hown (hts _ (jw_of h.2 rfl)) g1 g2 g3 g4 g5 (fun e => by rw [e] at g6; cases g6) g7 rfl h1 kk
theorem jo_getsF (C : jCtx D M p s m args meth c) {a b : Nat} {k : Int} (h : jchk4 M pc 59 a b k n = true) (hT : jT σ 3 = 61) (kk : jK D M p l e R s m args below meth c Q n1 s1 n L (va_rf (jR σ 0 3) :: st) σ) : jK D M p l e R s m args below meth c Q n1 s1 pc L st σ := by
  intro H locs ls hl hr hlo
  have kk := kk H locs ls hl hr hlo
  have hO := hr.old hT
  have h : (jdc M pc (.getstatic b) 3 n && jwd k.toNat (.fieldLink (jown M) b "jdk/internal/util/Preconditions" "SIOOBE_FORMATTER" "Ljava/util/function/BiFunction;")) = true := h
  rw [Bool.and_eq_true] at h
  obtain ⟨h1, rfl⟩ := jdc_of h.1
  obtain ⟨hx, hb, hml, hown, hts, hK, hin⟩ := C
  obtain ⟨cf, kf, fi, f, a, cell, g1, g2, g3, g4, g5, g6, g7, g8⟩ := hO.2.2.2.1
  exact W.gets hx hb hown (hts _ (jw_of h.2 rfl)) g1 g2 g3 g4 g5 (fun e => by rw [e] at g6; cases g6) g7 rfl h1 kk
theorem jo_getV (C : jCtx D M p s m args meth c) {a b : Nat} {k : Int} (h : jchk4 M pc 57 a b k n = true) (hT : jT σ 3 = 61) (kk : jK D M p l e R s m args below meth c Q n1 s1 n L (.ref 4 :: st) σ) : jK D M p l e R s m args below meth c Q n1 s1 pc L (.ref 3 :: st) σ := by
  intro H locs ls hl hr hlo
  have kk := kk H locs ls hl hr hlo
  have hO := hr.old hT
  have h : (jdc M pc (.getfield b) 3 n && jwd k.toNat (.fieldLink (jown M) b "java/lang/String" "value" "[B")) = true := h
  rw [Bool.and_eq_true] at h
  obtain ⟨h1, rfl⟩ := jdc_of h.1
  obtain ⟨hx, hb, hml, hown, hts, hK, hin⟩ := C
  obtain ⟨cf, k, fi, f, cell, g1, g2, g3, g4, g5, g6⟩ := (hO.2.2.2.2.1 0 (by decide)).2.2.1
  exact W.getf hx hb hown (hts _ (jw_of h.2 rfl)) g1 g2 g3 g4 (v := .ref (jloc D 4)) g5 rfl rfl h1 kk
theorem jo_getC (C : jCtx D M p s m args meth c) {a b : Nat} {k : Int} (h : jchk4 M pc 58 a b k n = true) (hT : jT σ 3 = 61) (kk : jK D M p l e R s m args below meth c Q n1 s1 n L (.int 0 :: st) σ) : jK D M p l e R s m args below meth c Q n1 s1 pc L (.ref 3 :: st) σ := by
  intro H locs ls hl hr hlo
  have kk := kk H locs ls hl hr hlo
  have hO := hr.old hT
  have h : (jdc M pc (.getfield b) 3 n && jwd k.toNat (.fieldLink (jown M) b "java/lang/String" "coder" "B")) = true := h
  rw [Bool.and_eq_true] at h
  obtain ⟨h1, rfl⟩ := jdc_of h.1
  obtain ⟨hx, hb, hml, hown, hts, hK, hin⟩ := C
  obtain ⟨cf, k, fi, f, cell, g1, g2, g3, g4, g5, g6⟩ := (hO.2.2.2.2.1 0 (by decide)).2.1
  exact W.getf hx hb hown (hts _ (jw_of h.2 rfl)) g1 g2 g3 g4 (v := .int 0) g5 rfl rfl h1 kk
theorem jo_i2c (C : jCtx D M p s m args meth c) {a b : Nat} {k : Int} (h : jchk4 M pc 60 a b k n = true) {x : Int32} (kk : jK D M p l e R s m args below meth c Q n1 s1 n L (.int (x.toUInt32 % 65536).toInt32 :: st) σ) : jK D M p l e R s m args below meth c Q n1 s1 pc L (.int x :: st) σ := by
  intro H locs ls hl hr hlo
  have kk := kk H locs ls hl hr hlo
  obtain ⟨h1, rfl⟩ := jdc_of (show jdc M pc .i2c 1 n = true from h)
  exact lv_i2c C.1 C.2.1 h1 rfl kk
theorem jo_tbald (C : jCtx D M p s m args meth c) {a b : Nat} {k : Int} (h : jchk4 M pc 62 a b k n = true) (hT : jT σ 3 = 61) {i : Int32} (hin : ¬ (i < 0 ∨ 57 ≤ i.toNatClampNeg)) (kk : jK D M p l e R s m args below meth c Q n1 s1 n L (.int (jnmb i.toNatClampNeg) :: st) σ) : jK D M p l e R s m args below meth c Q n1 s1 pc L (.int i :: .ref 4 :: st) σ := by
  intro H locs ls hl hr hlo
  have kk := kk H locs ls hl hr hlo
  have hO := hr.old hT
  obtain ⟨h1, rfl⟩ := jdc_of (show jdc M pc .baload 1 n = true from h)
  obtain ⟨cell, a3, a4, a5, a6, a7, a8, a9⟩ := (hO.2.2.2.2.1 0 (by decide)).2.2.2
  have a6 : 57 ≤ cell.slots.size := a6
  exact W.bald (v := .int (jnmb i.toNatClampNeg)) C.1 C.2.1 a3 a4 a5 (fun z => hin (z.elim Or.inl (fun q => Or.inr (by omega)))) (a8 _ (jclam hin)) rfl rfl h1 kk
theorem jo_tlen (C : jCtx D M p s m args meth c) {a b : Nat} {k : Int} (h : jchk4 M pc 63 a b k n = true) (hT : jT σ 3 = 61) (kk : jK D M p l e R s m args below meth c Q n1 s1 n L (.int 57 :: st) σ) : jK D M p l e R s m args below meth c Q n1 s1 pc L (.ref 4 :: st) σ := by
  intro H locs ls hl hr hlo
  have kk := kk H locs ls hl hr hlo
  have hO := hr.old hT
  obtain ⟨h1, rfl⟩ := jdc_of (show jdc M pc .arraylength 1 n = true from h)
  obtain ⟨cell, a3, a4, a5, a6, a7, a8, a9⟩ := (hO.2.2.2.2.1 0 (by decide)).2.2.2
  exact W.alen (n := 57) C.1 C.2.1 a3 a4 (by first | exact a7 | exact a7.symm) rfl rfl h1 kk
theorem jo_callT (C : jCtx D M p s m args meth c) {a b d : Nat} {k : Int} (h : jchk4 M pc 54 a b k n = true) {as rest : List Value} (hlen : jna a ≤ st.length) (has : .ref 3 :: as = (st.take (jna a)).reverse) (hrest : rest = st.drop (jna a)) (hcs : jcs rest ≤ 8) (hT : jT σ 3 = 61)
    (hM : jMet D l d a (.ref 3 :: as) σ r σ1) (hf : d + 1 ≤ R.frames) (hlc : 36 * (d + 1) ≤ R.locals) (hn1 : n1 ≤ jnx σ) (hs1 : s1 ≤ jsl σ) (hx1 : jnx σ ≤ jnx σ1) (hx2 : jsl σ ≤ jsl σ1) (hRc : jnx σ1 - n1 ≤ R.cells) (hRs : jsl σ1 - s1 ≤ R.slots)
    (kk : jK D M p l e R s m args below meth c Q n1 s1 n L (r.toList ++ rest) σ1) : jK D M p l e R s m args below meth c Q n1 s1 pc L st σ := by
  intro H locs ls hl hr hlo
  have e1 : jnx σ - n1 + (jnx σ1 - jnx σ) = jnx σ1 - n1 := by omega
  have e2 : jsl σ - s1 + (jsl σ1 - jsl σ) = jsl σ1 - s1 := by omega
  have hstk : st.map (jv D) = (as.map (jv D)).reverse ++ .ref (jloc D 3) :: rest.map (jv D) := by
    rw [jst_split has hrest]
    simp [jv]
  obtain ⟨hx, hb, hml, hown, hts, hK, hin⟩ := C
  have h : (jdc M pc (.invokevirtual b) 3 n && jwd k.toNat (.methodLink (jown M) b (jget a).1) && jmT a) = true := h
  simp only [Bool.and_eq_true] at h
  obtain ⟨h1, hn⟩ := jdc_of h.1.1
  have hmT := h.2
  unfold jmT at hmT
  simp only [Bool.and_eq_true, decide_eq_true_eq] at hmT
  obtain ⟨⟨⟨⟨hmk, v1⟩, v2⟩, v3⟩, v4⟩ := hmT
  have hd3 : (parseMethodDescriptor (jget a).1.desc).map (fun d => d.parameters.length) = some ((as.map (jv D)).length) := by
    have hlenA : (as.map (jv D)).length + 1 = jna a := by
      have h2 : (Value.ref 3 :: as).length = jna a := by rw [has, List.length_reverse, List.length_take]; omega
      rw [List.length_map]; exact h2
    cases hp : parseMethodDescriptor (jget a).1.desc with
    | none => rw [hp] at v3; cases v3
    | some z =>
      rw [hp] at v3
      have h9 : z.parameters.length + 1 = jna a := Option.some.inj v3
      simp only [Option.map_some, Option.some.injEq]
      omega
  have cell : ∃ cellB : Cell, H[jloc D 3]? = some cellB ∧ cellB.vm.isStatics = false ∧ s.vm.findClass (jown a) = some cellB.cls := by
    obtain ⟨cellB, q1, q2, q3, -⟩ := ((hr.old hT).2.2.2.2.1 0 (by decide)).1
    exact ⟨cellB, q1, q2, by rw [v4]; exact q3⟩
  obtain ⟨w1, w2, w3, w4⟩ := jmk_of hmk
  have fin : va_Run p l e R s m args below meth c H locs (jnx σ - n1) (jsl σ - s1) (jnx σ1 - jnx σ) (jsl σ1 - jsl σ) (F0 m pc ls (st.map (jv D))) (rest.map (jv D)) (jQc D r σ1 (Value.ref (jloc D 3) :: as.map (jv D)).toArray) (fun q => jn0 D ≤ q) := va_runV (Ts := jw) (C := jown a) (b := jloc D 3) ⟨hx, hb, hml, hown, hts⟩ hM ⟨callB_of _ hts (jGood hmk) rfl rfl rfl (hts _ w2) (hts _ (jw_of h.1.2 rfl)) ⟨w3.1, w3.2, hd3⟩ (jroom_ok hf hlc w4), hts _ (jw_of v1 rfl), hts _ (jw_of v2 rfl)⟩ ⟨jPc_blind _, cell, jPc_in (as := .ref 3 :: as) hK hr⟩ rfl rfl hl.1 hstk (jroom rfl hcs) h1 ⟨by omega, by omega⟩
  subst hn
  refine jo_run fin hlo (fun H1 locs1 hr1 hlo1 => ?_)
  rw [e1, e2]
  have kk := kk H1 locs1 ls hl hr1 hlo1
  rw [List.map_append] at kk
  cases r with
  | none => exact kk
  | some v => exact kk
theorem jcpw : (decide (Jvm.Cond.native arraycopyName ∈ lw_tbl) && decide (Jvm.Cond.static arraycopyName ∈ lw_tbl) && decide (Jvm.Cond.initialized "java/lang/System" ∈ lw_tbl)) = true := by decide +kernel
theorem jo_acpy (C : jCtx D M p s m args meth c) {a b d : Nat} {k : Int} (h : jchk4 M pc 56 a b k n = true) {pp q : Nat} {x y i : Int32} (hp : jT σ pp = 20) (hq : jT σ q = 20) (hd1 : 1 ≤ d) (hcs : jcs st ≤ 8) (h1 : ¬ i < 0) (h2 : ¬ y < 0) (h3 : ¬ x < 0) (h4 : i.toNatClampNeg + x.toNatClampNeg ≤ jN σ pp) (h5 : y.toNatClampNeg + x.toNatClampNeg ≤ jN σ q)
    (hf : d ≤ R.frames) (hlc : 36 * d ≤ R.locals) (kk : jK D M p l e R s m args below meth c Q n1 s1 n L st (jcp σ pp i.toNatClampNeg q y.toNatClampNeg x.toNatClampNeg)) : jK D M p l e R s m args below meth c Q n1 s1 pc L (.int x :: .int y :: .ref q :: .int i :: .ref pp :: st) σ := by
  intro H locs ls hl hr hlo
  have h : (jdc M pc (.invokestatic b) 3 n && jwd k.toNat (.methodLink (jown M) b arraycopyName)) = true := h
  rw [Bool.and_eq_true] at h
  obtain ⟨hdg, rfl⟩ := jdc_of h.1
  obtain ⟨hx, hb, hml, hown, hts, hK, hin⟩ := C
  have hcw := jcpw
  simp only [Bool.and_eq_true, decide_eq_true_eq] at hcw
  have nn : ∀ z : Int32, ¬ z < 0 → z.toInt = (z.toNatClampNeg : Int) := by
    intro z hz
    have hz0 : (0 : Int) ≤ z.toInt := by
      have := Int32.not_lt.mp hz
      simpa using Int32.le_iff_toInt_le.mp this
    show z.toInt = ((z.toInt.toNat : Nat) : Int)
    omega
  obtain ⟨b0, -, a0⟩ := (hr.2.2 pp).2.1 (by omega) (by omega)
  obtain ⟨b1, -, a1⟩ := (hr.2.2 q).2.1 (by omega) (by omega)
  rw [hp] at a0
  rw [hq] at a1
  have hc0 : H[jloc D pp]? = some (vp_cell (jdA D 20) (jN σ pp, .inl (jA σ pp))) := a0
  have hc1 : H[jloc D q]? = some (vp_cell (jdA D 20) (jN σ q, .inl (jA σ q))) := a1
  intro T hT X
  obtain ⟨-, k0, hk0, cm0, hkk0⟩ := jarr0 hK (jN σ pp) (fun j => .int (jA σ pp j))
  obtain ⟨-, k1, hk1, cm1, hkk1⟩ := jarr0 hK (jN σ q) (fun j => .int (jA σ q j))
  obtain ⟨vm', X', step⟩ := X.arraycopy hx hown (hts _ (jw_of h.2 rfl)) (hts _ (List.mem_filter.mpr ⟨hcw.1.1, rfl⟩)) (hts _ (List.mem_filter.mpr ⟨hcw.1.2, rfl⟩)) (hts _ (List.mem_filter.mpr ⟨hcw.2, rfl⟩)) (src := jloc D pp) (dst := jloc D q) (cs := vp_cell (jdA D 20) (jN σ pp, .inl (jA σ pp))) (cd := vp_cell (jdA D 20) (jN σ q, .inl (jA σ q))) (srcPos := i) (destPos := y) (n := x) (by rw [hT]; exact hc0) (by rw [hT]; exact hc1)
    (fun _ h => by cases h) (fun _ h => by cases h) (fun h => by cases h) (fun h => by cases h) hk0 hk1 hkk0 hkk1 (by simp [refKind]) h1 h2 h3
    (by rw [nn i h1, nn x h3]; show ¬ _ > ((arrV (jdA D 20) (jN σ pp) (fun j => .int (jA σ pp j))).slots.size : Int); rw [arrV_size]; omega)
    (by rw [nn y h2, nn x h3]; show ¬ _ > ((arrV (jdA D 20) (jN σ q) (fun j => .int (jA σ q j))).slots.size : Int); rw [arrV_size]; omega)
    (fun vm₁ _ z hz => by
      have e : (vp_cell (jdA D 20) (jN σ pp, .inl (jA σ pp))).slots.getD (i.toNatClampNeg + z) .null = .int (jA σ pp (i.toNatClampNeg + z)) := by
        show (arrV (jdA D 20) (jN σ pp) (fun j => .int (jA σ pp j))).slots.getD _ _ = _
        rw [Array.getD_eq_getD_getElem?, arrV_read _ _ (by omega)]
        rfl
      refine ⟨?_, ?_⟩
      · rw [e]
        rfl
      · rw [e]
        exact trivial)
    (g := F0 m pc ls ((.int x :: .int y :: .ref q :: .int i :: .ref pp :: st).map (jv D))) rfl (by rw [hml]; exact hl.1) (rest := st.map (jv D)) rfl (by rw [hb]; exact hdg) (by omega) (by
      have hjc := jcs_sum D st
      have hnf : nativeFrameWords "java/lang/System" "arraycopy" 5 = 7 := by decide
      show 2 * 0 + _ + _ ≤ _
      omega)
  have e1 : copied (vp_cell (jdA D 20) (jN σ pp, .inl (jA σ pp))) (vp_cell (jdA D 20) (jN σ q, .inl (jA σ q))) i y x = vp_cell (jdA D 20) (jN σ q, .inl (va_cpy (jA σ pp) (jA σ q) i.toNatClampNeg y.toNatClampNeg x.toNatClampNeg)) := va_copied (fun z => .int z) _ _ _ _ h4
  rw [e1] at X' step
  have hlq : jloc D q < H.size := (Array.getElem?_eq_some_iff.mp hc1).1
  have hheap : ((T.setVm vm').setCell (jloc D q) (vp_cell (jdA D 20) (jN σ q, .inl (va_cpy (jA σ pp) (jA σ q) i.toNatClampNeg y.toNatClampNeg x.toNatClampNeg)))).heap = H.setIfInBounds (jloc D q) (vp_cell (jdA D 20) (jN σ q, .inl (va_cpy (jA σ pp) (jA σ q) i.toNatClampNeg y.toNatClampNeg x.toNatClampNeg))) := by rw [← hT]; rfl
  have hrel : jRel D (jcp σ pp i.toNatClampNeg q y.toNatClampNeg x.toNatClampNeg) s (H.setIfInBounds (jloc D q) (vp_cell (jdA D 20) (jN σ q, .inl (va_cpy (jA σ pp) (jA σ q) i.toNatClampNeg y.toNatClampNeg x.toNatClampNeg)))) := by
    refine hr.arr (q := q) (by omega) (by omega) ?_ (by simp) (fun z hz => by simp [Array.getElem?_setIfInBounds, Ne.symm hz]) rfl rfl rfl rfl rfl rfl (fun z j hz => ?_)
    · rw [hq]
      have e9 : (fun j => Value.int (jA (jcp σ pp i.toNatClampNeg q y.toNatClampNeg x.toNatClampNeg) q j)) = fun j => Value.int (va_cpy (jA σ pp) (jA σ q) i.toNatClampNeg y.toNatClampNeg x.toNatClampNeg j) := by
        funext j
        show Value.int (if q = q then _ else _) = _
        rw [if_pos rfl]
      rw [e9]
      show (H.setIfInBounds (jloc D q) _)[jloc D q]? = some _
      simp [Array.getElem?_setIfInBounds, hlq]
      rfl
    · show (if z = q then _ else _) = _
      rw [if_neg hz]
  obtain ⟨t, g1, g2⟩ := kk _ _ ls hl hrel (fun z hz => by
      rcases List.mem_append.mp hz with hz | hz
      · exact hlo z hz
      · obtain ⟨w, -, hw⟩ := List.mem_map.mp hz
        rw [← hw]
        exact jloc_ge b1) _ hheap X'
  exact ⟨t, step t g1, g2⟩
end JN
