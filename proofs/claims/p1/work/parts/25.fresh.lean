/-! the fresh objects: both constructors run; rule() and program() on them run -/
def jok (r : jr) (v : Option Int32) : Bool := match r, v with
  | some (none, _), none => true
  | some (some (.int x), _), some y => decide (x = y)
  | _, _ => false
def jend (r : jr) : jS := (r.map Prod.snd).getD jτ0
theorem jok_n {r : jr} (h : jok r none = true) : r = some (none, jend r) := by
  match r, h with
  | some (none, s), _ => rfl
theorem jok_i {r : jr} {y : Int32} (h : jok r (some y) = true) : r = some (some (.int y), jend r) := by
  match r, h with
  | some (some (.int x), s), h => rw [of_decide_eq_true h]; rfl
def jc1 : jr := jrn 400 11 1 0 [some (.ref 16)] [] (jnO jτ0 9 14)
def jσ1 : jS := jend jc1
def jc2 : jr := jrn 700 11 120 0 [some (.ref 47)] [] (jnO jσ1 10 43)
def jσ2 : jS := jend jc2
theorem jc1_ok : (jok jc1 none && decide (jnx jσ1 = 47)) = true := by decide +kernel
theorem jc2_ok : jok jc2 none = true := by decide +kernel
