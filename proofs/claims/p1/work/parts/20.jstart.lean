/-! THE CLAIM OUT OF ONE WALK OF THE LAW'S BODY. Your part is whole_start (and what it stands on); all else here is the same for every law, but numbers. -/
def R_law : String := "RuleMillLaw"
def lw_P (b : Addr) (xs : List Int32) (args : Array Value) (s : State) : Prop := args = #[.ref b] ∧ s.IntsAt b xs ∧ xs.length ≤ 6 ∧ (Jvm.Cond.and given_1 narrow_1).before args s = true
def lw_Q (_ : Array Value) (s : State) (o : Outcome) (t : State) : Prop := o = .returned (some (.int 1)) ∧ Framed s o t [] 600000 7302250
def lw_Z (below : List Frame) (a : Array Value) (s : State) : State → Prop := fun t => ∃ o, t.status = .running ∧ Ended t below o ∧ lw_Q a s o t
/-- the law's own end, with 1 on the stack, nothing written that was there before, its room as the claim has it -/
theorem lw_ret {p : Program} {l : Launch} {e : Env} {s : State} {m : MethodId} {below : List Frame} {meth : Method} {c : Code} {b : Nat} (hx : p.tables.exec = Jvm.exec) (hb : c.code = code) (hr : meth.sig.returnType = ret) (hlocks : meth.locks = false) {pc : Nat} {H : Heap} {ls : Array Slot} (hdg : decode code pc = .ok (.ireturn, 1)) : W p l e room_1 s m #[Value.ref b] below meth c H [] 600000 7302250 (lw_Z below #[Value.ref b] s) (F0 m pc ls [.int 1]) := by
  intro T hT X
  obtain ⟨fs, hret, hrun, hended, hW, hframe⟩ := X.leave (v := some (.int 1)) (hlocks := hlocks) (fun h => by rw [hr] at h; cases h)
  have hmeth' : T.vm.method? m = some meth := X.method'
  refine ⟨T.setFrames fs, ?_, .returned (some (.int 1)), hrun, hended, rfl, ⟨_, rfl⟩, hW, hframe⟩
  jvm_step X.here [X.here.top, hx, hb, hdg, hmeth', hr, ret, narrow_b1]
  (try refine ⟨rfl, ?_⟩); (try refine ⟨rfl, ?_⟩)
  first | (intro acts; rw [hret _ acts rfl rfl rfl]) | rw [hret _ _ rfl rfl rfl]
  exact Steps.refl _
/-- what holds at the law's entry: the machine, the code, the tables' words (any of lw_tbl by 'hts w (by decide +kernel)'), the script of L ints xs at the cell b, what the Statement gives of the start (any of its parts by flat_of_before) -/
def lw_At (p : Program) (s : State) (m : MethodId) (meth : Method) (c : Code) (b L : Nat) (xs : Nat → Int32) : Prop :=
  p.tables.exec = Jvm.exec ∧ c.code = code ∧ meth.sig.returnType = ret ∧ c.maxLocals = 4 ∧ s.vm.findClass R_law = some m.cls ∧ (∀ w ∈ lw_tbl, w.before #[Value.ref b] s = true) ∧ va_X b L xs s s.heap ∧ b < s.heap.size ∧ meth.locks = false ∧ (Jvm.Cond.and given_1 narrow_1).before #[Value.ref b] s = true

theorem jovw : [4, 5].all (fun ci => match jcl[ci]? with | some c => decide (Jvm.Cond.arrayOver (.object c.1) ∈ lw_tbl) | none => false) = true := by decide +kernel
theorem jstart {p : Program} {e : Env} {s : State} {m : MethodId} {below : List Frame} {meth : Method} {c : Code} (l : Launch) {b L : Nat} {xs : Nat → Int32} (C0 : lw_At p s m meth c b L xs) {σ' : jS} (hrun : jx 12 0 0 [some (.ref 0), none, none, none] [] (jσ0 L xs) = some (some (.int 1), σ')) (hz1 : jnx σ' ≤ 600016) (hz2 : jsl σ' ≤ 7302250) :
    W p l e room_1 s m #[Value.ref b] below meth c s.heap [] 0 0 (lw_Z below #[Value.ref b] s) (entryFrame m ([Value.ref b] : List Value).toArray 4) := by
  obtain ⟨hx, hb, hr, hml, hown, hts, hX, hbl, hlocks, hgv⟩ := id C0
  have hcls : ∀ ci : Nat, ∃ q : ClassId × (Nat → Nat), ∀ r, jcl[ci]? = some r → u_Kn s r.1 r.2.1 r.2.2 q.1 q.2 := by
    intro ci
    cases hc : jcl[ci]? with
    | none => exact ⟨(0, fun _ => 0), fun r h => by cases h⟩
    | some r =>
      obtain ⟨w1, w2, -⟩ := jcl_ws hc
      obtain ⟨cC, iS, h⟩ := u_known (C := r.1) (T := r.2.1) (N := r.2.2) (n := r.2.2) hts (fun w hw => (List.mem_filter.mp (w1 w hw)).1) (hts _ w2)
      exact ⟨(cC, iS), fun r' h' => by cases h'; exact h⟩
  have harr : ∀ t : Nat, ∃ cA : ClassId, t < 3 → ArrOfT s cA (newarray.typeOf (jat t)) ∧ s.vm.findClass ("[" ++ (newarray.typeOf (jat t)).toString) = some cA := by
    intro t
    by_cases ht : t < 3
    · obtain ⟨cA, kA, comp, h1, h2, h3⟩ := Cond.arrayClass_spec (hts _ (List.mem_filter.mp (jarw_of ht)).1)
      exact ⟨cA, fun _ => ⟨fun n z => ⟨fun k h => (by cases h), kA, h2, comp, h3⟩, h1⟩⟩
    · exact ⟨0, fun h => absurd h ht⟩
  have href : ∀ ci : Nat, ∃ cA : ClassId, ∀ r, jcl[ci]? = some r → ci = 4 ∨ ci = 5 → ArrOfT s cA (.object r.1) ∧ va_RA s cA (.object r.1) ∧ va_AO r.1 s := by
    intro ci
    by_cases hci : ci = 4 ∨ ci = 5
    · cases hc : jcl[ci]? with
      | none => exact ⟨0, fun r h => by cases h⟩
      | some r =>
        have ho := List.all_eq_true.mp jovw ci (by rcases hci with rfl | rfl <;> simp)
        rw [hc] at ho
        have hw := hts _ (of_decide_eq_true ho)
        obtain ⟨comp, cA, k, h1, h2, h3, h4, h5⟩ := Cond.arrayOver_spec hw
        exact ⟨cA, fun r' h' _ => by cases h'; exact ⟨fun n z => ⟨fun k h => (by cases h), k, h3, comp, h4⟩, ⟨k, comp, h3, h4, h1, h5⟩, va_AO.of hw⟩⟩
    · exact ⟨0, fun r _ h => absurd h hci⟩
  let D : jD := (fun ci => (Classical.choose (hcls ci)).1, fun ci => (Classical.choose (hcls ci)).2, fun t => if t < 30 then Classical.choose (harr (t - 20)) else Classical.choose (href (t - 30)), fun _ => b, s.heap.size)
  have hK : jKn D s := by
    refine ⟨fun ci r hc => Classical.choose_spec (hcls ci) r hc, fun t ht => ?_, fun ci r hc hi => ?_, fun w hw hn => ?_⟩
    · have h1 := Classical.choose_spec (harr t) ht
      have e : jdA D (20 + t) = Classical.choose (harr t) := by
        show (if 20 + t < 30 then Classical.choose (harr (20 + t - 20)) else _) = _
        rw [if_pos (by omega)]
        simp only [Nat.add_sub_cancel_left]
      rw [e]
      exact h1
    · have h1 := Classical.choose_spec (href ci) r hc hi
      have e : jdA D (30 + ci) = Classical.choose (href ci) := by
        show (if 30 + ci < 30 then _ else Classical.choose (href (30 + ci - 30))) = _
        rw [if_neg (by omega)]
        simp only [Nat.add_sub_cancel_left]
      rw [e]
      exact h1
    · have h5 := hts w hw
      cases w <;> first | exact va_Nw.of rfl h5 | cases hn
  have hrel : jRel D (jσ0 L xs) s s.heap := by
    refine ⟨rfl, Nat.le_refl _, fun a => ?_⟩
    by_cases ha : a = 0
    · subst ha
      have hT : jT (jσ0 L xs) 0 = 60 := rfl
      refine ⟨fun ci r hc h => ?_, fun t1 t2 => ?_, fun t1 t2 => ?_, fun _ => ?_, Or.inr (Or.inr hT)⟩
      · have hl11 : ci < 11 := (List.getElem?_eq_some_iff.mp hc).1
        rw [hT] at h; omega
      · rw [hT] at t2; omega
      · rw [hT] at t2; omega
      · obtain ⟨scr, h1, h2, h3, h4, h5⟩ := hX
        exact ⟨by decide, hbl, scr, h1, h2, h3, h4, h5⟩
    · have hT : jT (jσ0 L xs) a = 0 := by show (if a = 0 then 60 else 0) = 0; rw [if_neg ha]
      refine ⟨fun ci r hc h => ?_, fun t1 t2 => ?_, fun t1 t2 => ?_, fun t => ?_, Or.inl (by rw [hT]; decide)⟩
      · rw [hT] at h; omega
      · rw [hT] at t1; omega
      · rw [hT] at t1; omega
      · rw [hT] at t; omega
  have C : jCtx D 0 p s m #[Value.ref b] meth c := ⟨hx, hb, hml, hown, fun w hw => hts w (List.mem_filter.mp hw).1, hK, fun h => absurd h (by decide)⟩
  obtain ⟨f, hf⟩ := jx_iff.mp hrun
  have hle := jl_entry D (M := 0) (as := [.ref 0]) (by decide)
  have key := jsim D l f 12 0 0 [some (.ref 0), none, none, none] [] (jσ0 L xs) σ' (some (.int 1)) hf p e room_1 s m #[Value.ref b] below meth c (lw_Z below #[Value.ref b] s) 16 0 C (by decide) (by decide) (by show jnx σ' - 16 ≤ 600000; omega) (by show jsl σ' - 0 ≤ 7302250; omega) (Nat.le_refl _) (Nat.le_refl _) ?_ s.heap [] _ hle hrel (fun q h => by cases h)
  · rw [lg_entry_eq]
    exact key
  · intro H locs ls pc hrel' hlo hE
    rcases hE with ⟨h, -⟩ | ⟨x, h, hd, -⟩ | ⟨v, nm, h, hv, -⟩ | ⟨x, h, -⟩
    · cases h
    · cases h
      refine va_forget (fun q hq => hlo q hq) ?_
      refine W.widen (k := 600000) (n := 7302250) (by omega) (by omega) ?_
      exact lw_ret hx hb hr hlocks hd
    · cases h
      rcases hv with h | ⟨a, h⟩ <;> cases h
    · cases h
