/-! calls, switches -/
def jws (M : Nat) : List Jvm.Cond := Jvm.Cond.code (jget M).1 (jbs M) (jml M) (jret M) :: jw
def jPc (D : jD) (as : List Value) (σ : jS) : Array Value → State → Prop := fun v U => v = (as.map (jv D)).toArray ∧ jRel D σ U U.heap ∧ jKn D U
def jQc (D : jD) (r : Option Value) (σ' : jS) : Array Value → State → Outcome → State → Prop := fun _ _ oc t => oc = .returned (r.map (jv D)) ∧ jRel D σ' t t.heap
def jrm (d mc ms : Nat) : Jvm.Room := { frames := d, cells := mc, slots := ms, locals := 36 * d }
def jMet (D : jD) (l : Launch) (d M : Nat) (as : List Value) (σ : jS) (r : Option Value) (σ' : jS) : Prop :=
  Met l (jget M).1 (jws M) (jrm d (jnx σ' - jnx σ) (jsl σ' - jsl σ)) (jPc D as σ) (jQc D r σ') (jnx σ' - jnx σ) (jsl σ' - jsl σ) (fun q => jn0 D ≤ q)
theorem jmk_of {M : Nat} (h : jmk M = true) : Jvm.Cond.code (jget M).1 (jbs M) (jml M) (jret M) ∈ jw ∧ Jvm.Cond.initialized (jown M) ∈ jw ∧ (jown M ≠ "java/lang/invoke/MethodHandle" ∧ jown M ≠ "java/lang/invoke/VarHandle") ∧ jml M ≤ 17 := by
  unfold jmk at h
  simp only [Bool.and_eq_true, decide_eq_true_eq] at h
  exact ⟨jw_of h.1.1.1 rfl, jw_of h.1.1.2 rfl, h.1.2, h.2⟩
theorem jGood {M : Nat} (h : jmk M = true) : GoodIn jw (jws M) := by
  intro w hw
  rcases List.mem_cons.mp hw with rfl | hw
  · exact ⟨(jmk_of h).1, jw_good (jmk_of h).1⟩
  · exact ⟨hw, jw_good hw⟩
section JC
variable {D : jD} {M : Nat} {p : Program} {l : Launch} {e : Env} {R : Room} {s : State} {m : MethodId} {args : Array Value} {below : List Frame} {meth : Method} {c : Code} {Q : State → Prop} {n1 s1 pc n : Nat} {L : jL} {st : List Value} {σ σ1 : jS} {r : Option Value}
theorem jo_run {H : Heap} {locs : List Loc} {cells slots mc ms : Nat} {ls : Array Slot} {st0 rest : List Value} {av : Array Value} (hr : va_Run p l e R s m args below meth c H locs cells slots mc ms (F0 m pc ls st0) rest (jQc D r σ1 av) (fun q => jn0 D ≤ q)) (hlo : ∀ q ∈ locs, jn0 D ≤ q.base)
    (kk : ∀ (H1 : Heap) (locs1 : List Loc), jRel D σ1 s H1 → (∀ q ∈ locs1, jn0 D ≤ q.base) → W p l e R s m args below meth c H1 locs1 (cells + mc) (slots + ms) Q (F0 m (pc + 3) ls ((r.map (jv D)).toList ++ rest))) : W p l e R s m args below meth c H locs cells slots Q (F0 m pc ls st0) := by
  intro T hT X
  obtain ⟨v, st₀, t, T', L, h0, X', hL, e1, e2, ⟨hv, hrel⟩, st⟩ := hr T hT X
  cases hv
  have hal : t.vm.Alike s.vm := by rw [← e2]; exact X'.warmed.alike.symm
  obtain ⟨t2, a1, b1⟩ := kk T'.heap (locs ++ L) (by rw [e1]; exact hrel.moved hal) (fun q hq => by
    rcases List.mem_append.mp hq with h | h
    · exact hlo q h
    · exact hL q h) T' rfl X'
  exact ⟨t2, st t2 a1, b1⟩
theorem jPc_blind (as : List Value) : FrameBlind (jPc D as σ) := by
  intro a U g mk ⟨h1, h2, h3⟩
  exact ⟨h1, jRel.moved (u := U) (U := U.calling g mk a) (Vm.Alike.refl U.vm) h2, jKn.same (u := U) (U := U.calling g mk a) rfl h3⟩
theorem jPc_in {as : List Value} {H : Heap} (hK : jKn D s) (hr : jRel D σ s H) : ∀ U : State, U.heap = H → s.WarmedH U.vm → jPc D as σ (as.map (jv D)).toArray U := by
  intro U hU hW
  exact ⟨rfl, by rw [hU]; exact hr.moved hW.alike, hK.warm hW⟩
theorem jroom {g : JFrame} (h : g.monitorRoom = 0) {rest : List Value} (hc : jcs rest ≤ 8) : 2 * g.monitorRoom + ((rest.map (jv D)).map fun v => v.category).sum ≤ 8 := by
  rw [h, jcs_sum]; omega
theorem jst_split {na : Nat} {as rest : List Value} (h1 : as = (st.take na).reverse) (h2 : rest = st.drop na) : st.map (jv D) = (as.map (jv D)).reverse ++ rest.map (jv D) := by
  rw [← List.map_reverse, h1, List.reverse_reverse, h2, ← List.map_append, List.take_append_drop]
/-- the room of a call -/
theorem jroom_ok {d a mc ms : Nat} (hf : d + 1 ≤ R.frames) (hl : 36 * (d + 1) ≤ R.locals) (ha : jml a ≤ 17) : (jrm d mc ms).frames + 1 ≤ R.frames ∧ 8 + (jml a + 11) + (jrm d mc ms).locals ≤ R.locals := by
  refine ⟨hf, ?_⟩
  show 8 + (jml a + 11) + 36 * d ≤ R.locals
  omega
theorem jo_callS (C : jCtx D M p s m args meth c) {a b d : Nat} {k : Int} {op : Nat} (hop : op = 38 ∨ op = 41) (h : jchk3 M pc op a b k n = true) {as rest : List Value} (hlen : jna a ≤ st.length) (has : as = (st.take (jna a)).reverse) (hrest : rest = st.drop (jna a)) (hcs : jcs rest ≤ 8)
    (hM : jMet D l d a as σ r σ1) (hf : d + 1 ≤ R.frames) (hlc : 36 * (d + 1) ≤ R.locals) (hn1 : n1 ≤ jnx σ) (hs1 : s1 ≤ jsl σ) (hx1 : jnx σ ≤ jnx σ1) (hx2 : jsl σ ≤ jsl σ1) (hRc : jnx σ1 - n1 ≤ R.cells) (hRs : jsl σ1 - s1 ≤ R.slots)
    (kk : jK D M p l e R s m args below meth c Q n1 s1 n L (r.toList ++ rest) σ1) : jK D M p l e R s m args below meth c Q n1 s1 pc L st σ := by
  intro H locs ls hl hr hlo
  have hq : jdc M pc (.invokestatic b) 3 n = true ∧ jmS a = true ∧ ((op = 38 ∧ jwd k.toNat (.methodLink (jown M) b (jget a).1) = true) ∨ (op = 41 ∧ jwd k.toNat (.methodLinkNest (jown M) b (jget a).1 "RuleMill") = true)) := by
    rcases hop with rfl | rfl
    · have h : (jdc M pc (.invokestatic b) 3 n && jwd k.toNat (.methodLink (jown M) b (jget a).1) && jmS a) = true := h
      simp only [Bool.and_eq_true] at h
      exact ⟨h.1.1, h.2, Or.inl ⟨rfl, h.1.2⟩⟩
    · have h : (jdc M pc (.invokestatic b) 3 n && jwd k.toNat (.methodLinkNest (jown M) b (jget a).1 "RuleMill") && jmS a) = true := h
      simp only [Bool.and_eq_true] at h
      exact ⟨h.1.1, h.2, Or.inr ⟨rfl, h.1.2⟩⟩
  obtain ⟨hd, hmS, hlink⟩ := hq
  obtain ⟨h1, rfl⟩ := jdc_of hd
  obtain ⟨hx, hb, hml, hown, hts, hK, hin⟩ := C
  unfold jmS at hmS
  simp only [Bool.and_eq_true, decide_eq_true_eq] at hmS
  obtain ⟨⟨hmk, hst⟩, hpar⟩ := hmS
  obtain ⟨w1, w2, w3, w4⟩ := jmk_of hmk
  have hlenA : (as.map (jv D)).length = jna a := by rw [List.length_map, has, List.length_reverse, List.length_take]; omega
  have e1 : jnx σ - n1 + (jnx σ1 - jnx σ) = jnx σ1 - n1 := by omega
  have e2 : jsl σ - s1 + (jsl σ1 - jsl σ) = jsl σ1 - s1 := by omega
  have fin : va_Run p l e R s m args below meth c H locs (jnx σ - n1) (jsl σ - s1) (jnx σ1 - jnx σ) (jsl σ1 - jsl σ) (F0 m pc ls (st.map (jv D))) (rest.map (jv D)) (jQc D r σ1 ((as.map (jv D)).toArray)) (fun q => jn0 D ≤ q) := by
    rcases hlink with ⟨-, hw⟩ | ⟨-, hw⟩
    · exact va_runS (Ts := jw) ⟨hx, hb, hml, hown, hts⟩ hM ⟨callB_of (jna a) hts (jGood hmk) rfl rfl rfl (hts _ w2) (hts _ (jw_of hw rfl)) ⟨w3.1, w3.2, hpar⟩ (jroom_ok hf hlc w4), hts _ (jw_of hst rfl)⟩ ⟨jPc_blind as, jPc_in hK hr⟩ rfl hlenA hl.1 (jst_split has hrest) (jroom rfl hcs) h1 ⟨by omega, by omega⟩
    · exact va_runSN (Ts := jw) ⟨hx, hb, hml, hown, hts⟩ hM ⟨va_cnB (jna a) hts (jGood hmk) rfl rfl rfl (hK.2.2.2.1 _ (List.mem_of_getElem? (of_decide_eq_true hw)) rfl) (hts _ w2) ⟨w3.1, w3.2, hpar⟩ (jroom_ok hf hlc w4), hts _ (jw_of hst rfl), trivial⟩ ⟨jPc_blind as, jPc_in hK hr⟩ rfl hlenA hl.1 (jst_split has hrest) (jroom rfl hcs) h1 ⟨by omega, by omega⟩
  refine jo_run fin hlo (fun H1 locs1 hr1 hlo1 => ?_)
  rw [e1, e2]
  have kk := kk H1 locs1 ls hl hr1 hlo1
  rw [List.map_append] at kk
  cases r with
  | none => exact kk
  | some v => exact kk
theorem jo_callV (C : jCtx D M p s m args meth c) {a b d : Nat} {k : Int} {op : Nat} (hop : op = 39 ∨ op = 40 ∨ op = 42 ∨ op = 43) (h : jchk3 M pc op a b k n = true) {q : Nat} {as rest : List Value} (hlen : jna a ≤ st.length) (has : .ref q :: as = (st.take (jna a)).reverse) (hrest : rest = st.drop (jna a)) (hcs : jcs rest ≤ 8) (hT : jT σ q = 1 + jci a)
    (hM : jMet D l d a (.ref q :: as) σ r σ1) (hf : d + 1 ≤ R.frames) (hlc : 36 * (d + 1) ≤ R.locals) (hn1 : n1 ≤ jnx σ) (hs1 : s1 ≤ jsl σ) (hx1 : jnx σ ≤ jnx σ1) (hx2 : jsl σ ≤ jsl σ1) (hRc : jnx σ1 - n1 ≤ R.cells) (hRs : jsl σ1 - s1 ≤ R.slots)
    (kk : jK D M p l e R s m args below meth c Q n1 s1 n L (r.toList ++ rest) σ1) : jK D M p l e R s m args below meth c Q n1 s1 pc L st σ := by
  intro H locs ls hl hr hlo
  have e1 : jnx σ - n1 + (jnx σ1 - jnx σ) = jnx σ1 - n1 := by omega
  have e2 : jsl σ - s1 + (jsl σ1 - jsl σ) = jsl σ1 - s1 := by omega
  have hlenA : (as.map (jv D)).length + 1 = jna a := by
    have h2 : (Value.ref q :: as).length = jna a := by rw [has, List.length_reverse, List.length_take]; omega
    rw [List.length_map]; exact h2
  have hstk : st.map (jv D) = (as.map (jv D)).reverse ++ .ref (jloc D q) :: rest.map (jv D) := by
    rw [jst_split has hrest]
    simp [jv]
  obtain ⟨hx, hb, hml, hown, hts, hK, hin⟩ := C
  have hd3 : ∀ (hpar : (parseMethodDescriptor (jget a).1.desc).map (fun d => d.parameters.length + 1) = some (jna a)), (parseMethodDescriptor (jget a).1.desc).map (fun d => d.parameters.length) = some ((as.map (jv D)).length) := by
    intro hpar
    cases hp : parseMethodDescriptor (jget a).1.desc with
    | none => rw [hp] at hpar; cases hpar
    | some z =>
      rw [hp] at hpar
      have h9 : z.parameters.length + 1 = jna a := Option.some.inj hpar
      simp only [Option.map_some, Option.some.injEq]
      omega
  have cell : ∀ (hcl : (jcl[jci a]?).map (fun c => c.1) = some (jown a)), ∃ cellB : Cell, H[jloc D q]? = some cellB ∧ cellB.vm.isStatics = false ∧ s.vm.findClass (jown a) = some cellB.cls := by
    intro hcl
    cases hc : jcl[jci a]? with
    | none => rw [hc] at hcl; cases hcl
    | some z =>
      rw [hc] at hcl
      have hz : z.1 = jown a := Option.some.inj hcl
      obtain ⟨-, -, cellB, q1, q2, q3, -⟩ := (hr.2.2 q).1 _ z hc hT
      exact ⟨cellB, q1, by rw [q3]; rfl, by rw [← hz, q2]; exact (hK.1 _ z hc).2.1⟩
  have goes : ∀ {hn : n = pc + 3}, va_Run p l e R s m args below meth c H locs (jnx σ - n1) (jsl σ - s1) (jnx σ1 - jnx σ) (jsl σ1 - jsl σ) (F0 m pc ls (st.map (jv D))) (rest.map (jv D)) (jQc D r σ1 (Value.ref (jloc D q) :: as.map (jv D)).toArray) (fun q => jn0 D ≤ q) → W p l e R s m args below meth c H locs (jnx σ - n1) (jsl σ - s1) Q (F0 m pc ls (st.map (jv D))) := by
    intro hn fin
    subst hn
    refine jo_run fin hlo (fun H1 locs1 hr1 hlo1 => ?_)
    rw [e1, e2]
    have kk := kk H1 locs1 ls hl hr1 hlo1
    rw [List.map_append] at kk
    cases r with
    | none => exact kk
    | some v => exact kk
  have vir : ∀ (hmV : jmV a = true), jmk a = true ∧ Jvm.Cond.instanceMethod (jget a).1 ∈ jw ∧ Jvm.Cond.selects (jown a) (jget a).1 (jget a).1 ∈ jw ∧ (parseMethodDescriptor (jget a).1.desc).map (fun d => d.parameters.length + 1) = some (jna a) ∧ (jcl[jci a]?).map (fun c => c.1) = some (jown a) := by
    intro hmV
    unfold jmV at hmV
    simp only [Bool.and_eq_true, decide_eq_true_eq] at hmV
    exact ⟨hmV.1.1.1.1, jw_of hmV.1.1.1.2 rfl, jw_of hmV.1.1.2 rfl, hmV.1.2, hmV.2⟩
  have ini : ∀ (hmI : jmI a = true), jmk a = true ∧ Jvm.Cond.instanceMethod (jget a).1 ∈ jw ∧ (jget a).1.name = "<init>" ∧ jret a = none ∧ (parseMethodDescriptor (jget a).1.desc).map (fun d => d.parameters.length + 1) = some (jna a) := by
    intro hmI
    unfold jmI at hmI
    simp only [Bool.and_eq_true, decide_eq_true_eq] at hmI
    exact ⟨hmI.1.1.1.1.1, jw_of hmI.1.1.1.1.2 rfl, hmI.1.1.1.2, hmI.1.1.2, hmI.1.2⟩
  rcases hop with rfl | rfl | rfl | rfl
  · have h : (jdc M pc (.invokevirtual b) 3 n && jwd k.toNat (.methodLink (jown M) b (jget a).1) && jmV a) = true := h
    simp only [Bool.and_eq_true] at h
    obtain ⟨h1, hn⟩ := jdc_of h.1.1
    obtain ⟨hmk, v1, v2, v3, v4⟩ := vir h.2
    obtain ⟨w1, w2, w3, w4⟩ := jmk_of hmk
    exact goes (hn := hn) (va_runV (Ts := jw) (C := jown a) (b := jloc D q) ⟨hx, hb, hml, hown, hts⟩ hM ⟨callB_of _ hts (jGood hmk) rfl rfl rfl (hts _ w2) (hts _ (jw_of h.1.2 rfl)) ⟨w3.1, w3.2, hd3 v3⟩ (jroom_ok hf hlc w4), hts _ v1, hts _ v2⟩ ⟨jPc_blind _, cell v4, jPc_in (as := .ref q :: as) hK hr⟩ rfl rfl hl.1 hstk (jroom rfl hcs) h1 ⟨by omega, by omega⟩)
  · have h : (jdc M pc (.invokespecial b) 3 n && jwd k.toNat (.methodLink (jown M) b (jget a).1) && jmI a) = true := h
    simp only [Bool.and_eq_true] at h
    obtain ⟨h1, hn⟩ := jdc_of h.1.1
    obtain ⟨hmk, v1, v2, v3, v4⟩ := ini h.2
    obtain ⟨w1, w2, w3, w4⟩ := jmk_of hmk
    exact goes (hn := hn) (va_runI (Ts := jw) (b := jloc D q) ⟨hx, hb, hml, hown, hts⟩ hM ⟨callB_of (ws' := jw) _ hts (jGood hmk) (by unfold jws; rw [v3]) rfl rfl (hts _ w2) (hts _ (jw_of h.1.2 rfl)) ⟨w3.1, w3.2, hd3 v4⟩ (jroom_ok hf hlc w4), v2, hts _ v1⟩ ⟨jPc_blind _, jPc_in (as := .ref q :: as) hK hr⟩ rfl rfl hl.1 hstk (jroom rfl hcs) h1 ⟨by omega, by omega⟩)
  · have h : (jdc M pc (.invokevirtual b) 3 n && jwd k.toNat (.methodLinkNest (jown M) b (jget a).1 "RuleMill") && jmV a) = true := h
    simp only [Bool.and_eq_true] at h
    obtain ⟨h1, hn⟩ := jdc_of h.1.1
    obtain ⟨hmk, v1, v2, v3, v4⟩ := vir h.2
    obtain ⟨w1, w2, w3, w4⟩ := jmk_of hmk
    exact goes (hn := hn) (va_runVN (Ts := jw) (C := jown a) (b := jloc D q) ⟨hx, hb, hml, hown, hts⟩ hM ⟨va_cnB _ hts (jGood hmk) rfl rfl rfl (hK.2.2.2.1 _ (List.mem_of_getElem? (of_decide_eq_true h.1.2)) rfl) (hts _ w2) ⟨w3.1, w3.2, hd3 v3⟩ (jroom_ok hf hlc w4), hts _ v1, hts _ v2⟩ ⟨jPc_blind _, cell v4, jPc_in (as := .ref q :: as) hK hr⟩ rfl rfl hl.1 hstk (jroom rfl hcs) h1 ⟨by omega, by omega⟩)
  · have h : (jdc M pc (.invokespecial b) 3 n && jwd k.toNat (.methodLinkNest (jown M) b (jget a).1 "RuleMill") && jmI a) = true := h
    simp only [Bool.and_eq_true] at h
    obtain ⟨h1, hn⟩ := jdc_of h.1.1
    obtain ⟨hmk, v1, v2, v3, v4⟩ := ini h.2
    obtain ⟨w1, w2, w3, w4⟩ := jmk_of hmk
    exact goes (hn := hn) (va_runIN (Ts := jw) (b := jloc D q) ⟨hx, hb, hml, hown, hts⟩ hM ⟨va_cnB (ws' := jw) _ hts (jGood hmk) (by unfold jws; rw [v3]) rfl rfl (hK.2.2.2.1 _ (List.mem_of_getElem? (of_decide_eq_true h.1.2)) rfl) (hts _ w2) ⟨w3.1, w3.2, hd3 v4⟩ (jroom_ok hf hlc w4), v2, hts _ v1⟩ ⟨jPc_blind _, jPc_in (as := .ref q :: as) hK hr⟩ rfl rfl hl.1 hstk (jroom rfl hcs) h1 ⟨by omega, by omega⟩)
theorem jobw : decide (Jvm.Cond.instanceMethod objectInit ∈ lw_tbl) && decide (Jvm.Cond.code objectInit ⟨#[0xb1]⟩ 1 none ∈ lw_tbl) = true := by decide +kernel
theorem jo_obj (C : jCtx D M p s m args meth c) {a b d : Nat} {k : Int} (h : jchk3 M pc 44 a b k n = true) {q : Nat} (hq : 1 ≤ d ∧ jcs st ≤ 8) (hf : d ≤ R.frames) (hlc : 36 * d ≤ R.locals) (kk : jK D M p l e R s m args below meth c Q n1 s1 n L st σ) : jK D M p l e R s m args below meth c Q n1 s1 pc L (.ref q :: st) σ := by
  intro H locs ls hl hr hlo
  have kk := kk H locs ls hl hr hlo
  have h : (jdc M pc (.invokespecial b) 3 n && jwd k.toNat (.methodLink (jown M) b objectInit)) = true := h
  simp only [Bool.and_eq_true] at h
  obtain ⟨h1, rfl⟩ := jdc_of h.1
  obtain ⟨hx, hb, hml, hown, hts, hK, hin⟩ := C
  have ho := jobw
  simp only [Bool.and_eq_true, decide_eq_true_eq] at ho
  refine W.objInit hx hb hown (hts _ (jw_of h.2 rfl)) (hts _ (List.mem_filter.mpr ⟨ho.1, rfl⟩)) (hts _ (List.mem_filter.mpr ⟨ho.2, rfl⟩)) rfl (by rw [hml]; exact hl.1) rfl h1 (by omega) ?_ kk
  have := jroom (D := D) (g := F0 m pc ls (List.map (jv D) (.ref q :: st))) rfl hq.2
  omega
theorem jo_tsw (C : jCtx D M p s m args meth c) {a b : Nat} {k : Int} (h : jchk3 M pc 50 a b k n = true) {lo hi : Int} {df : Nat} {ts : List Nat} (ht : jts[a]? = some (lo, hi, df, ts)) {x : Int32}
    (k1 : x.toInt < lo ∨ hi < x.toInt → jK D M p l e R s m args below meth c Q n1 s1 df L st σ) (k2 : ¬ (x.toInt < lo ∨ hi < x.toInt) → ∃ t, ts[(x.toInt - lo).toNat]? = some t ∧ jK D M p l e R s m args below meth c Q n1 s1 t L st σ) : jK D M p l e R s m args below meth c Q n1 s1 pc L (.int x :: st) σ := by
  intro H locs ls hl hr hlo
  have h : (match jts[a]? with
    | some (lo, hi, df, ts) => jdc M pc (.tableswitch ((df : Int) - pc) lo hi ((ts.map (fun (t : Nat) => (t : Int) - pc)).toArray)) (n - pc) n
    | none => false) = true := h
  rw [ht] at h
  obtain ⟨h1, h2⟩ := jdc_of h
  by_cases hx : x.toInt < lo ∨ hi < x.toInt
  · exact lv_tableOut C.1 C.2.1 h1 hx (by omega) (k1 hx H locs ls hl hr hlo)
  · obtain ⟨t, g1, g2⟩ := k2 hx
    refine lv_tableIn (off := (t : Int) - pc) C.1 C.2.1 h1 (fun q => hx (Or.inl q)) (fun q => hx (Or.inr q)) ?_ (by omega) (g2 H locs ls hl hr hlo)
    rw [List.getElem?_toArray, List.getElem?_map, g1]
    rfl
theorem jlk_off (pc : Nat) (df : Nat) (x : Int) : ∀ ps : List (Int × Nat), Op.lookupswitch.offset (ps.map (fun (q : Int × Nat) => (q.1, (q.2 : Int) - pc))) ((df : Int) - pc) x = (jlk ps df x : Int) - pc := by
  intro ps
  induction ps with
  | nil => rfl
  | cons q t ih =>
    obtain ⟨k, v⟩ := q
    rw [List.map_cons, Op.lookupswitch.offset_cons, ih]
    simp only [jlk]
    by_cases hk : k = x
    · rw [if_pos hk, if_pos (by first | exact hk | exact hk.symm)]
    · rw [if_neg hk, if_neg (by first | exact hk | exact fun z => hk z.symm)]
theorem jo_lsw (C : jCtx D M p s m args meth c) {a b : Nat} {k : Int} (h : jchk3 M pc 51 a b k n = true) {df : Nat} {ps : List (Int × Nat)} (ht : jls[a]? = some (df, ps)) {x : Int32}
    (kk : jK D M p l e R s m args below meth c Q n1 s1 (jlk ps df x.toInt) L st σ) : jK D M p l e R s m args below meth c Q n1 s1 pc L (.int x :: st) σ := by
  intro H locs ls hl hr hlo
  have kk := kk H locs ls hl hr hlo
  simp (decide := true) only [jchk3, reduceIte, ht, Bool.and_eq_true, decide_eq_true_eq] at h
  obtain ⟨h1, h2⟩ := jdc_of h.1
  refine lv_lookup (off := (jlk ps df x.toInt : Int) - pc) C.1 C.2.1 h1 h.2 ?_ (by omega) kk
  exact jlk_off pc df x.toInt ps
end JC
