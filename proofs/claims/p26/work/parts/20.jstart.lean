/-! THE CLAIM OUT OF ONE WALK OF THE LAW'S BODY. Your part is whole_start (and what it stands on); all else here is the same for every law, but numbers. -/
def R_law : String := "RuleMillLaw"
def lw_P (b : Addr) (xs : List Int32) (args : Array Value) (s : State) : Prop := args = #[.ref b] ∧ s.IntsAt b xs ∧ xs.length ≤ 3072 ∧ (Jvm.Cond.and given_1 narrow_1).before args s = true
def lw_Q (_ : Array Value) (s : State) (o : Outcome) (t : State) : Prop := o = .returned (some (.int 1)) ∧ Framed s o t [] 600000 7302250
def lw_Z (below : List Frame) (a : Array Value) (s : State) : State → Prop := fun t => ∃ o, t.status = .running ∧ Ended t below o ∧ lw_Q a s o t
/-- the law's own end, with 1 on the stack, nothing written that was there before, its room as the claim has it -/
theorem lw_ret {p : Program} {l : Launch} {e : Env} {s : State} {m : MethodId} {below : List Frame} {meth : Method} {c : Code} {b : Nat} (hx : p.tables.exec = Jvm.exec) (hb : c.code = code) (hr : meth.sig.returnType = ret) (hlocks : meth.locks = false) {pc : Nat} {H : Heap} {ls : Array Slot} (hdg : decode code pc = .ok (.ireturn, 1)) : W p l e room_1 s m #[Value.ref b] below meth c H [] 600000 7302250 (lw_Z below #[Value.ref b] s) (F0 m pc ls [.int 1]) := by
  intro T hT X
  obtain ⟨fs, hret, hrun, hended, hW, hframe⟩ := X.leave (v := some (.int 1)) (hlocks := hlocks) (fun h => by rw [hr] at h; cases h)
  have hmeth' : T.vm.method? m = some meth := X.method'
  refine ⟨T.setFrames fs, ?_, .returned (some (.int 1)), hrun, hended, rfl, ⟨_, rfl⟩, hW, hframe⟩
  jvm_step X.here [X.here.top, hx, hb, hdg, hmeth', hr, ret, narrow_b1]
  (try refine ⟨rfl, ?_⟩); (try refine ⟨rfl, ?_⟩)
  first | (intro acts; rw [hret _ acts rfl rfl rfl]) | rw [hret _ _ rfl rfl rfl]
  exact Steps.refl _
/-- what holds at the law's entry: the machine, the code, the tables' words (any of lw_tbl by 'hts w (by decide +kernel)'), the script of L ints xs at the cell b, what the Statement gives of the start (any of its parts by flat_of_before) -/
def lw_At (p : Program) (s : State) (m : MethodId) (meth : Method) (c : Code) (b L : Nat) (xs : Nat → Int32) : Prop :=
  p.tables.exec = Jvm.exec ∧ c.code = code ∧ meth.sig.returnType = ret ∧ c.maxLocals = 4 ∧ s.vm.findClass R_law = some m.cls ∧ (∀ w ∈ lw_tbl, w.before #[Value.ref b] s = true) ∧ va_X b L xs s s.heap ∧ b < s.heap.size ∧ meth.locks = false ∧ (Jvm.Cond.and given_1 narrow_1).before #[Value.ref b] s = true

theorem jovw : [4, 5].all (fun ci => match jcl[ci]? with | some c => decide (Jvm.Cond.arrayOver (.object c.1) ∈ lw_tbl) | none => false) = true := by decide +kernel
/-- the statics and the names at the start -/
theorem jold0 {b : Nat} {s : State} (hts : ∀ w ∈ lw_tbl, w.before #[Value.ref b] s = true) (hgv : (Jvm.Cond.and given_1 narrow_1).before #[Value.ref b] s = true) (A : Nat → Prop) (hA : ∀ a : Nat, a < s.heap.size → ¬ A a) :
    ∃ (tR tP kS vS t5 : Nat) (z : Option Nat), (va_Z "RuleMill" "REGISTERS_OF" "[I" (.ref tR) A s s.heap ∧ va_T .int tR 19 (fun j => .int (jtr.getD j 0)) A s s.heap) ∧ (va_Z "RuleMill" "PRICES" "[I" (.ref tP) A s s.heap ∧ va_T .int tP 19 (fun j => .int (jtp.getD j 0)) A s s.heap) ∧ va_Z "java/lang/String" "COMPACT_STRINGS" "Z" (.int 1) A s s.heap ∧
      ((z = none ∧ va_Z "jdk/internal/util/Preconditions" "SIOOBE_FORMATTER" "Ljava/util/function/BiFunction;" .null A s s.heap) ∨ (z = some 5 ∧ va_Z "jdk/internal/util/Preconditions" "SIOOBE_FORMATTER" "Ljava/util/function/BiFunction;" (.ref t5) A s s.heap)) ∧ vk_S 1 [57] [jnml] (fun _ => kS) (fun _ => vS) A s s.heap ∧ vk_R "RuleMill$Reader" 163 jNAMES kS s ∧ vk_R "RuleMill$Row" 93 jNAMES kS s := by
  have hs := flat_of_before _ hgv
  obtain ⟨tR, eR, hR⟩ := va_Tof (tm := .static "RuleMill" "REGISTERS_OF" "[I") (ty := .int) (N := 19) (f := fun j => .int (jtr.getD j 0)) (A := A) (args := #[Value.ref b]) (s := s) (by decide) (hs _ (by decide +kernel)) (va_eqt (hs _ (by decide +kernel))) (fun j hj => va_eqt (hs _ ((by decide +kernel : ∀ j, j < 19 → (Jvm.Cond.eq (.elem (.static "RuleMill" "REGISTERS_OF" "[I") (.int (Int32.ofNat j))) (.int (jtr.getD j 0))) ∈ flatC (Jvm.Cond.and given_1 narrow_1)) j hj))) hA
  obtain ⟨tP, eP, hP⟩ := va_Tof (tm := .static "RuleMill" "PRICES" "[I") (ty := .int) (N := 19) (f := fun j => .int (jtp.getD j 0)) (A := A) (args := #[Value.ref b]) (s := s) (by decide) (hs _ (by decide +kernel)) (va_eqt (hs _ (by decide +kernel))) (fun j hj => va_eqt (hs _ ((by decide +kernel : ∀ j, j < 19 → (Jvm.Cond.eq (.elem (.static "RuleMill" "PRICES" "[I") (.int (Int32.ofNat j))) (.int (jtp.getD j 0))) ∈ flatC (Jvm.Cond.and given_1 narrow_1)) j hj))) hA
  have zR := va_Zref (hts (.laysStatic "RuleMill" "REGISTERS_OF" "[I") (by decide +kernel)) (hts (.initialized "RuleMill") (by decide +kernel)) eR hA
  have zP := va_Zref (hts (.laysStatic "RuleMill" "PRICES" "[I") (by decide +kernel)) (hts (.initialized "RuleMill") (by decide +kernel)) eP hA
  have zC := va_Zof (hts (.laysStatic "java/lang/String" "COMPACT_STRINGS" "Z") (by decide +kernel)) (hts (.initialized "java/lang/String") (by decide +kernel)) (va_eqt (z := 1) (hs _ (by decide +kernel))) hA
  have zF := va_Zqof (hts (.laysStatic "jdk/internal/util/Preconditions" "SIOOBE_FORMATTER" "Ljava/util/function/BiFunction;") (by decide +kernel)) (hts (.initialized "jdk/internal/util/Preconditions") (by decide +kernel)) (hs _ (by decide +kernel)) hA
  obtain ⟨adK, adV, hS, hE⟩ := vk_Sof (args := #[Value.ref b]) (s := s) (N := 1) (tm := fun _ => .string "RuleMill$Reader" 163) (len := [57]) (byt := [jnml]) (A := A) (fun i hi => by have : i = 0 := by omega
                                                                                                                                                                                       subst this; decide) (fun _ _ => hs _ (by decide +kernel)) (fun _ _ => hs _ (by decide +kernel)) (fun _ _ => hs _ (by decide +kernel))
    (fun i hi => by have : i = 0 := by omega
                    subst this; exact hs _ (by decide +kernel))
    (fun i hi j hj => by have : i = 0 := by omega
                         subst this
                         exact hs _ ((by decide +kernel : ∀ j, j < 57 → (Jvm.Cond.eq (.elem (.field (.string "RuleMill$Reader" 163) "java/lang/String" "value" "[B") (.int (Int32.ofNat j))) (.int (jnml.getD j 0))) ∈ flatC (Jvm.Cond.and given_1 narrow_1)) j hj))
    (fun i j hi hj hne => absurd (by omega : i = j) hne) hA
  have eK := hE 0 (by decide)
  have r1 : vk_R "RuleMill$Reader" 163 jNAMES (adK 0) s := vk_R.of (hts _ (by decide +kernel)) eK
  have r2 : vk_R "RuleMill$Row" 93 jNAMES (adK 0) s := vk_R.of (hts _ (by decide +kernel)) (va_eqR (t := .string "RuleMill$Reader" 163) (hs _ (by decide +kernel)) eK)
  have hS1 : vk_S 1 [57] [jnml] (fun _ => adK 0) (fun _ => adV 0) A s s.heap := by
    refine ⟨fun i hi => ?_, fun i j hi hj _ => by omega⟩
    have : i = 0 := by omega
    subst this
    exact hS.1 0 hi
  rcases zF with zF | ⟨t, zF⟩
  · exact ⟨tR, tP, adK 0, adV 0, 0, none, ⟨zR, hR⟩, ⟨zP, hP⟩, zC, Or.inl ⟨rfl, zF⟩, hS1, r1, r2⟩
  · exact ⟨tR, tP, adK 0, adV 0, t, some 5, ⟨zR, hR⟩, ⟨zP, hP⟩, zC, Or.inr ⟨rfl, zF⟩, hS1, r1, r2⟩
theorem jstart {p : Program} {e : Env} {s : State} {m : MethodId} {below : List Frame} {meth : Method} {c : Code} (l : Launch) {b L : Nat} {xs : Nat → Int32} (C0 : lw_At p s m meth c b L xs) (hruns : ∀ z : Option Nat, z = none ∨ z = some 5 → ∃ σ', jx 12 0 0 [some (.ref 0), none, none, none] [] (jσ0 z L xs) = some (some (.int 1), σ') ∧ jnx σ' ≤ 600016 ∧ jsl σ' ≤ 7302250) :
    W p l e room_1 s m #[Value.ref b] below meth c s.heap [] 0 0 (lw_Z below #[Value.ref b] s) (entryFrame m ([Value.ref b] : List Value).toArray 4) := by
  obtain ⟨hx, hb, hr, hml, hown, hts, hX, hbl, hlocks, hgv⟩ := id C0
  have hcls : ∀ ci : Nat, ∃ q : ClassId × (Nat → Nat), ∀ r, jcl[ci]? = some r → u_Kn s r.1 r.2.1 r.2.2 q.1 q.2 := by
    intro ci
    cases hc : jcl[ci]? with
    | none => exact ⟨(0, fun _ => 0), fun r h => by cases h⟩
    | some r =>
      obtain ⟨w1, w2, -⟩ := jcl_ws hc
      obtain ⟨cC, iS, h⟩ := u_known (C := r.1) (T := r.2.1) (N := r.2.2) (n := r.2.2) hts (fun w hw => (List.mem_filter.mp (w1 w hw)).1) (hts _ w2)
      exact ⟨(cC, iS), fun r' h' => by cases h'; exact h⟩
  have harr : ∀ t : Nat, ∃ cA : ClassId, t < 3 → ArrOfT s cA (newarray.typeOf (jat t)) ∧ s.vm.findClass ("[" ++ (newarray.typeOf (jat t)).toString) = some cA := by
    intro t
    by_cases ht : t < 3
    · obtain ⟨cA, kA, comp, h1, h2, h3⟩ := Cond.arrayClass_spec (hts _ (List.mem_filter.mp (jarw_of ht)).1)
      exact ⟨cA, fun _ => ⟨fun n z => ⟨fun k h => (by cases h), kA, h2, comp, h3⟩, h1⟩⟩
    · exact ⟨0, fun h => absurd h ht⟩
  have href : ∀ ci : Nat, ∃ cA : ClassId, ∀ r, jcl[ci]? = some r → ci = 4 ∨ ci = 5 → ArrOfT s cA (.object r.1) ∧ va_RA s cA (.object r.1) ∧ va_AO r.1 s := by
    intro ci
    by_cases hci : ci = 4 ∨ ci = 5
    · cases hc : jcl[ci]? with
      | none => exact ⟨0, fun r h => by cases h⟩
      | some r =>
        have ho := List.all_eq_true.mp jovw ci (by rcases hci with rfl | rfl <;> simp)
        rw [hc] at ho
        have hw := hts _ (of_decide_eq_true ho)
        obtain ⟨comp, cA, k, h1, h2, h3, h4, h5⟩ := Cond.arrayOver_spec hw
        exact ⟨cA, fun r' h' _ => by cases h'; exact ⟨fun n z => ⟨fun k h => (by cases h), k, h3, comp, h4⟩, ⟨k, comp, h3, h4, h1, h5⟩, va_AO.of hw⟩⟩
    · exact ⟨0, fun r _ h => absurd h hci⟩
  obtain ⟨tR, tP, kS, vS, t5, z, ⟨zR, aR⟩, ⟨zP, aP⟩, zC, zF, hS, r1, r2⟩ := jold0 hts hgv (fun q => s.heap.size ≤ q) (fun a ha h => by omega)
  obtain ⟨σ', hrun, hz1, hz2⟩ := hruns z (zF.elim (fun h => Or.inl h.1) (fun h => Or.inr h.1))
  let D : jD := (fun ci => (Classical.choose (hcls ci)).1, fun ci => (Classical.choose (hcls ci)).2, fun t => if t < 30 then Classical.choose (harr (t - 20)) else Classical.choose (href (t - 30)), fun a => if a = 0 then b else if a = 1 then tR else if a = 2 then tP else if a = 3 then kS else if a = 4 then vS else t5, s.heap.size)
  have hK : jKn D s := by
    refine ⟨fun ci r hc => Classical.choose_spec (hcls ci) r hc, fun t ht => ?_, fun ci r hc hi => ?_, fun w hw hn => ?_, r1, r2⟩
    · have h1 := Classical.choose_spec (harr t) ht
      have e : jdA D (20 + t) = Classical.choose (harr t) := by
        show (if 20 + t < 30 then Classical.choose (harr (20 + t - 20)) else _) = _
        rw [if_pos (by omega)]
        simp only [Nat.add_sub_cancel_left]
      rw [e]
      exact h1
    · have h1 := Classical.choose_spec (href ci) r hc hi
      have e : jdA D (30 + ci) = Classical.choose (href ci) := by
        show (if 30 + ci < 30 then _ else Classical.choose (href (30 + ci - 30))) = _
        rw [if_neg (by omega)]
        simp only [Nat.add_sub_cancel_left]
      rw [e]
      exact h1
    · have h5 := hts w hw
      cases w <;> first | exact va_Nw.of rfl h5 | cases hn
  have hol : jOl D z s s.heap := by
    refine ⟨zR, zP, zC, ?_, hS⟩
    rcases zF with ⟨rfl, zF⟩ | ⟨rfl, zF⟩
    · exact zF
    · exact zF
  have hrel : jRel D (jσ0 z L xs) s s.heap := by
    refine ⟨rfl, Nat.le_refl _, fun a => ?_⟩
    have hst : ∀ (a t : Nat) (T : List Int32), jT (jσ0 z L xs) a = 60 → jN (jσ0 z L xs) a = 19 → jloc D a = t → a < 16 → (∀ j, jA (jσ0 z L xs) a j = T.getD j 0) → va_T .int t 19 (fun j => .int (T.getD j 0)) (fun q => s.heap.size ≤ q) s s.heap → jcell D (jσ0 z L xs) s s.heap a := by
      intro a t T h1 h2 h3 h16 h4 h5
      refine ⟨fun ci r hc h => ?_, fun t1 t2 => ?_, fun t1 t2 => ?_, fun _ => ?_, Or.inr (Or.inr (Or.inl h1))⟩
      · have hl11 : ci < 11 := (List.getElem?_eq_some_iff.mp hc).1
        rw [h1] at h; omega
      · rw [h1] at t2; omega
      · rw [h1] at t2; omega
      · obtain ⟨cell, g1, g2, g3, g4, g5, g6, g7⟩ := h5
        refine ⟨h16, ?_, cell, by rw [h3]; exact g1, g2, g3, by rw [h2]; exact ⟨g4, g5⟩, fun j hj => ?_⟩
        · rw [h3]
          show t < s.heap.size
          exact Nat.not_le.mp g7
        · rw [h4]
          rw [h2] at hj
          exact g6 j hj
    by_cases ha : a = 0
    · subst ha
      have hT : jT (jσ0 z L xs) 0 = 60 := rfl
      refine ⟨fun ci r hc h => ?_, fun t1 t2 => ?_, fun t1 t2 => ?_, fun _ => ?_, Or.inr (Or.inr (Or.inl hT))⟩
      · have hl11 : ci < 11 := (List.getElem?_eq_some_iff.mp hc).1
        rw [hT] at h; omega
      · rw [hT] at t2; omega
      · rw [hT] at t2; omega
      · obtain ⟨scr, h1, h2, h3, h4, h5⟩ := hX
        exact ⟨by decide, hbl, scr, h1, h2, h3, ⟨Nat.le_of_eq h4.symm, by rw [h4]; rfl⟩, h5⟩
    by_cases ha1 : a = 1
    · subst ha1
      exact hst 1 tR jtr rfl rfl rfl (by decide) (fun j => rfl) aR
    by_cases ha2 : a = 2
    · subst ha2
      exact hst 2 tP jtp rfl rfl rfl (by decide) (fun j => rfl) aP
    by_cases ha3 : a = 3
    · subst ha3
      have hT : jT (jσ0 z L xs) 3 = 61 := rfl
      refine ⟨fun ci r hc h => ?_, fun t1 t2 => ?_, fun t1 t2 => ?_, fun t => ?_, Or.inr (Or.inr (Or.inr ⟨hT, rfl, hol⟩))⟩
      · have hl11 : ci < 11 := (List.getElem?_eq_some_iff.mp hc).1
        rw [hT] at h; omega
      · rw [hT] at t2; omega
      · rw [hT] at t2; omega
      · rw [hT] at t; omega
    · have hT : jT (jσ0 z L xs) a = 0 := by show (if a = 0 then 60 else if a = 1 then 60 else if a = 2 then 60 else if a = 3 then 61 else 0) = 0; rw [if_neg ha, if_neg ha1, if_neg ha2, if_neg ha3]
      refine ⟨fun ci r hc h => ?_, fun t1 t2 => ?_, fun t1 t2 => ?_, fun t => ?_, Or.inl (by rw [hT]; decide)⟩
      · rw [hT] at h; omega
      · rw [hT] at t1; omega
      · rw [hT] at t1; omega
      · rw [hT] at t; omega
  have C : jCtx D 0 p s m #[Value.ref b] meth c := ⟨hx, hb, hml, hown, fun w hw => hts w (List.mem_filter.mp hw).1, hK, fun h => absurd h (by decide)⟩
  obtain ⟨f, hf⟩ := jx_iff.mp hrun
  have hle := jl_entry D (M := 0) (as := [.ref 0]) (by decide)
  have key := jsim D l f 12 0 0 [some (.ref 0), none, none, none] [] (jσ0 z L xs) σ' (some (.int 1)) hf p e room_1 s m #[Value.ref b] below meth c (lw_Z below #[Value.ref b] s) 16 0 C (by decide) (by decide) (by show jnx σ' - 16 ≤ 600000; omega) (by show jsl σ' - 0 ≤ 7302250; omega) (Nat.le_refl _) (Nat.le_refl _) ?_ s.heap [] _ hle hrel (fun q h => by cases h)
  · rw [lg_entry_eq]
    exact key
  · intro H locs ls pc hrel' hlo hE
    rcases hE with ⟨h, -⟩ | ⟨x, h, hd, -⟩ | ⟨v, nm, h, hv, -⟩ | ⟨x, h, -⟩
    · cases h
    · cases h
      refine va_forget (fun q hq => hlo q hq) ?_
      refine W.widen (k := 600000) (n := 7302250) (by omega) (by omega) ?_
      exact lw_ret hx hb hr hlocks hd
    · cases h
      rcases hv with h | ⟨a, h⟩ <;> cases h
    · cases h
