/-! mill: which window comes next, and that the price falls -/
def hitB (s : AS) (p i r : Nat) : Bool := (s.rs.getD r ar0).on && (decide (sndA (s.rs.getD r ar0)) && (winF s.W (s.rs.getD r ar0).o1 (s.rs.getD r ar0).o2.length (s.ps.getD p []) i).isSome)
def fR (s : AS) (p i : Nat) : Nat → Nat → Option Nat
  | 0, _ => none
  | f + 1, r => if hitB s p i r = true then some r else fR s p i f (r + 1)
def fP (s : AS) (p : Nat) : Nat → Nat → Option (Nat × Nat)
  | 0, _ => none
  | f + 1, i => match fR s p i s.rs.length 0 with | some r => some (i, r) | none => fP s p f (i + 1)
def fW (s : AS) (p : Nat) : Option (Nat × Nat) := fP s p (s.ps.getD p []).length 0
theorem fR_ok {s : AS} {p i : Nat} : ∀ f r r', fR s p i f r = some r' → r ≤ r' ∧ r' < r + f ∧ hitB s p i r' = true := by
  intro f
  induction f with
  | zero => intro r r' h; cases h
  | succ f ih =>
    intro r r' h
    unfold fR at h
    split at h
    · rename_i q
      cases h; exact ⟨Nat.le_refl _, by omega, q⟩
    · obtain ⟨h1, h2, h3⟩ := ih _ _ h
      exact ⟨by omega, by omega, h3⟩
theorem fP_ok {s : AS} {p : Nat} : ∀ f i z, fP s p f i = some z → i ≤ z.1 ∧ z.1 < i + f ∧ z.2 < s.rs.length ∧ hitB s p z.1 z.2 = true ∧ fR s p z.1 s.rs.length 0 = some z.2 := by
  intro f
  induction f with
  | zero => intro i z h; cases h
  | succ f ih =>
    intro i z h
    unfold fP at h
    cases hr : fR s p i s.rs.length 0 with
    | some r =>
      rw [hr] at h
      cases h
      obtain ⟨_, h2, h3⟩ := fR_ok _ _ _ hr
      exact ⟨Nat.le_refl _, by omega, by omega, h3, hr⟩
    | none =>
      rw [hr] at h
      obtain ⟨h1, h2, h3⟩ := ih _ _ h
      exact ⟨by omega, by omega, h3⟩
theorem hit_win {s : AS} {p i r : Nat} (h : hitB s p i r = true) : (s.rs.getD r ar0).on = true ∧ sndA (s.rs.getD r ar0) ∧ ∃ x, winF s.W (s.rs.getD r ar0).o1 (s.rs.getD r ar0).o2.length (s.ps.getD p []) i = some x := by
  unfold hitB at h
  rw [Bool.and_eq_true, Bool.and_eq_true, decide_eq_true_eq] at h
  exact ⟨h.1, h.2.1, Option.isSome_iff_exists.mp h.2.2⟩
/-- the price, as a number -/
def priS : List (Nat → Int32) → Nat
  | [] => 0
  | o :: os => priN (opO o) + priS os
theorem prcL_n : ∀ (os : List (Nat → Int32)) (a : Nat), prcL os (nI a) = nI (a + priS os) := by
  intro os
  induction os with
  | nil => intro a; rfl
  | cons o os ih =>
    intro a
    show prcL os (nI a + nI (priN (opO o))) = _
    rw [nadd, ih]
    show _ = nI (a + (priN (opO o) + priS os))
    rw [Nat.add_assoc]
theorem priS_app (a b : List (Nat → Int32)) : priS (a ++ b) = priS a + priS b := by
  induction a with
  | nil => show priS b = 0 + priS b; omega
  | cons o os ih =>
    show priN (opO o) + priS (os ++ b) = priN (opO o) + priS os + priS b
    rw [ih]; omega
theorem priS_map : ∀ (a b : List (Nat → Int32)), a.map opO = b.map opO → priS a = priS b := by
  intro a
  induction a with
  | nil =>
    intro b h
    cases b with
    | nil => rfl
    | cons o os => cases h
  | cons o os ih =>
    intro b h
    cases b with
    | nil => cases h
    | cons o' os' =>
      rw [List.map_cons, List.map_cons, List.cons.injEq] at h
      show priN (opO o) + priS os = priN (opO o') + priS os'
      rw [h.1, ih os' h.2]
theorem pri16 : ∀ k, k < 19 → 1 ≤ priN k ∧ priN k ≤ 6 := by decide
theorem priS_bd : ∀ (os : List (Nat → Int32)), (∀ o, o ∈ os → OPk o) → os.length ≤ priS os ∧ priS os ≤ 6 * os.length := by
  intro os
  induction os with
  | nil => intro _; exact ⟨Nat.le_refl _, Nat.le_refl _⟩
  | cons o os ih =>
    intro h
    have i := ih (fun p hp => h p (List.mem_cons_of_mem _ hp))
    have j := pri16 _ (h o List.mem_cons_self).1
    show os.length + 1 ≤ priN (opO o) + priS os ∧ priN (opO o) + priS os ≤ 6 * (os.length + 1)
    omega
theorem tkW_op {W pl : Nat} {os ps : List (Nat → Int32)} : ∀ n x, tkW W os ps pl n = some x → ∀ i, i < n → (ps.getD (pl + i) (fun _ => 0)) 0 = (os.getD i (fun _ => 0)) 0 := by
  intro n
  induction n with
  | zero => intro x h i hi; exact absurd hi (Nat.not_lt_zero i)
  | succ n ih =>
    intro x h i hi
    obtain ⟨c, h1, h2⟩ := Option.bind_eq_some_iff.mp h
    by_cases e : i = n
    · subst e
      unfold tkO at h2
      split at h2
      · assumption
      · cases h2
    · exact ih c h1 i (by omega)
theorem gap_lt : ∀ a, a < 25 → ∀ b, b < 25 → 0 < nI a - nI b → b < a := by decide
theorem win_cond {W m pl : Nat} {os ps : List (Nat → Int32)} {x : BN × BN} (h : winF W os m ps pl = some x) : pl + os.length ≤ ps.length ∧ ps.length - os.length + m ≤ 24 ∧ tkW W os ps pl os.length = some x := by
  unfold winF at h
  split at h
  · rename_i q; exact ⟨q.1, q.2, h⟩
  · cases h
/-- the price falls -/
theorem pri_fall {W pl : Nat} {a : AR} (hf : WFr a) (hs : sndA a) {x : BN × BN} {A : List (Nat → Int32)} (h : winF W a.o1 a.o2.length A pl = some x) : priS (newP W a x A pl) + 1 ≤ priS A := by
  obtain ⟨c1, c2, c3⟩ := win_cond h
  have s1 : priS a.o2 < priS a.o1 := by
    have b1 := priS_bd a.o1 (fun o ho => (hf.f1 o ho).op)
    have b2 := priS_bd a.o2 (fun o ho => (hf.f2 o ho).op)
    have := hf.l4
    have := hf.m4
    have g := hs.2
    unfold gnA at g
    rw [show (0 : Int32) = nI 0 from rfl, prcL_n, prcL_n, Nat.zero_add, Nat.zero_add] at g
    exact gap_lt _ (by omega) _ (by omega) g
  have s2 : priS (a.o2.map (newO W x)) = priS a.o2 := by
    apply priS_map
    rw [List.map_map]
    apply List.map_congr_left
    intro o _
    show opO (newO W x o) = opO o
    unfold opO
    exact congrArg _ (keep_op W o).1
  have s3 : priS ((A.drop pl).take a.o1.length) = priS a.o1 := by
    apply priS_map
    apply List.ext_getElem
    · rw [List.length_map, List.length_map, List.length_take, List.length_drop]
      omega
    · intro i h1 h2
      rw [List.length_map] at h2
      rw [List.getElem_map, List.getElem_map, List.getElem_take, List.getElem_drop]
      have q := tkW_op _ _ c3 i h2
      rw [List.getD_eq_getElem?_getD, List.getElem?_eq_getElem (by omega), List.getD_eq_getElem?_getD, List.getElem?_eq_getElem h2] at q
      unfold opO
      exact congrArg _ q
  have s4 : A = A.take pl ++ ((A.drop pl).take a.o1.length ++ A.drop (pl + a.o1.length)) := by
    rw [← List.drop_drop, List.take_append_drop, List.take_append_drop]
  have s5 : priS A = priS (A.take pl) + (priS ((A.drop pl).take a.o1.length) + priS (A.drop (pl + a.o1.length))) := by
    rw [← priS_app, ← priS_app, ← s4]
  unfold newP
  rw [priS_app, priS_app, s2, s5, s3]
  omega
/-- one step of a milling -/
def adS (s : AS) (i r : Nat) (v : Int32) : AS := (s.W, s.len, s.b, s.rs, s.ps, s.ns + 1, fun k w => if k = s.ns then (if w = 0 then nI i else if w = 1 then nI r else v) else s.tl k w, s.ap)
def stS (s : AS) (p i r : Nat) (x : BN × BN) : AS := adS (chS s p r (newP s.W (s.rs.getD r ar0) x (s.ps.getD p []) i)) i r (prcL (newP s.W (s.rs.getD r ar0) x (s.ps.getD p []) i) 0)
def milF (p : Nat) : Nat → AS → AS
  | 0, s => s
  | f + 1, s => match fW s p with | none => s | some (i, r) => (match winF s.W (s.rs.getD r ar0).o1 (s.rs.getD r ar0).o2.length (s.ps.getD p []) i with | none => s | some x => milF p f (stS s p i r x))
theorem milF_none {p f : Nat} {s : AS} (h : fW s p = none) : milF p f s = s := by
  cases f with
  | zero => rfl
  | succ f => unfold milF; rw [h]
theorem milF_some {p f i r : Nat} {s : AS} {x : BN × BN} (h : fW s p = some (i, r)) (hw : winF s.W (s.rs.getD r ar0).o1 (s.rs.getD r ar0).o2.length (s.ps.getD p []) i = some x) : milF p (f + 1) s = milF p f (stS s p i r x) := by
  rw [milF, h]
  show (match winF s.W (s.rs.getD r ar0).o1 (s.rs.getD r ar0).o2.length (s.ps.getD p []) i with | none => s | some x => milF p f (stS s p i r x)) = _
  rw [hw]
theorem stS_ps {s : AS} {p i r : Nat} {x : BN × BN} (hp : p < s.ps.length) : (stS s p i r x).ps.length = s.ps.length ∧ (stS s p i r x).ps.getD p [] = newP s.W (s.rs.getD r ar0) x (s.ps.getD p []) i ∧ (stS s p i r x).ns = s.ns + 1 := by
  refine ⟨List.length_set, ?_, rfl⟩
  show (s.ps.set p _).getD p [] = _
  rw [set_ps hp, if_pos rfl]
theorem stS_wf {s : AS} {p i r : Nat} {x : BN × BN} (hs : WFs s) (hp : p < s.ps.length) (hr : r < s.rs.length) (hw : winF s.W (s.rs.getD r ar0).o1 (s.rs.getD r ar0).o2.length (s.ps.getD p []) i = some x) (ib : IB x.1) (ic : IC x.2) (hn : s.ns < 144) : WFs (stS s p i r x) := by
  have fr := hs.fr _ (mem_rs hr)
  obtain ⟨c1, c2, _⟩ := win_cond hw
  have h := chS_wf (p := p) (r := r) (B := newP s.W (s.rs.getD r ar0) x (s.ps.getD p []) i) hs hr ⟨by rw [newP_len c1]; exact c2, newP_pwf hs.w fr (win_ful fr hw ib ic) (hs.fp _ (mem_ps hp)).2⟩
  exact ⟨h.w, h.l, h.byy, h.r24, h.p16, h.fr, h.fp, hn⟩
