/-! the J machine: what the bytecode does, over cells that have numbers; a number below 16 is a cell that was there before -/
abbrev jS : Type := (Nat → Nat) × (Nat → Nat) × (Nat → Nat → Int32) × (Nat → Nat → Option Nat) × (Nat → Nat → Int32) × (Nat → Nat → Option Nat) × Nat × Nat
def jT (σ : jS) : Nat → Nat := σ.1
def jN (σ : jS) : Nat → Nat := σ.2.1
def jI (σ : jS) : Nat → Nat → Int32 := σ.2.2.1
def jR (σ : jS) : Nat → Nat → Option Nat := σ.2.2.2.1
def jA (σ : jS) : Nat → Nat → Int32 := σ.2.2.2.2.1
def jG (σ : jS) : Nat → Nat → Option Nat := σ.2.2.2.2.2.1
def jnx (σ : jS) : Nat := σ.2.2.2.2.2.2.1
def jsl (σ : jS) : Nat := σ.2.2.2.2.2.2.2
def ju1 {α : Type} (f : Nat → α) (a : Nat) (v : α) : Nat → α := fun b => if b = a then v else f b
def ju2 {α : Type} (f : Nat → Nat → α) (k a : Nat) (v : α) : Nat → Nat → α := fun k' a' => if k' = k ∧ a' = a then v else f k' a'
def jz2 {α : Type} (f : Nat → Nat → α) (a : Nat) (v : α) : Nat → Nat → α := fun k' a' => if a' = a then v else f k' a'
def jz1 {α : Type} (f : Nat → Nat → α) (a : Nat) (v : α) : Nat → Nat → α := fun a' i => if a' = a then v else f a' i
def jsI (σ : jS) (g a : Nat) (v : Int32) : jS := (jT σ, jN σ, ju2 (jI σ) g a v, jR σ, jA σ, jG σ, jnx σ, jsl σ)
def jsR (σ : jS) (g a : Nat) (v : Option Nat) : jS := (jT σ, jN σ, jI σ, ju2 (jR σ) g a v, jA σ, jG σ, jnx σ, jsl σ)
def jsA (σ : jS) (a i : Nat) (v : Int32) : jS := (jT σ, jN σ, jI σ, jR σ, ju2 (jA σ) a i v, jG σ, jnx σ, jsl σ)
def jsG (σ : jS) (a i : Nat) (v : Option Nat) : jS := (jT σ, jN σ, jI σ, jR σ, jA σ, ju2 (jG σ) a i v, jnx σ, jsl σ)
def jnO (σ : jS) (ci n : Nat) : jS := (ju1 (jT σ) (jnx σ) (1 + ci), jN σ, jz2 (jI σ) (jnx σ) 0, jz2 (jR σ) (jnx σ) none, jA σ, jG σ, jnx σ + 1, jsl σ + n)
def jnA (σ : jS) (t n : Nat) : jS := (ju1 (jT σ) (jnx σ) (20 + t), ju1 (jN σ) (jnx σ) n, jI σ, jR σ, jz1 (jA σ) (jnx σ) 0, jG σ, jnx σ + 1, jsl σ + n)
def jnG (σ : jS) (ci n : Nat) : jS := (ju1 (jT σ) (jnx σ) (30 + ci), ju1 (jN σ) (jnx σ) n, jI σ, jR σ, jA σ, jz1 (jG σ) (jnx σ) none, jnx σ + 1, jsl σ + n)
def jget (M : Nat) : jM := jtab.getD M jm_no
def jlook : List (Nat × jE) → Nat → jE
  | [], _ => jno
  | (q, e) :: t, pc => if pc = q then e else jlook t pc
def jcode (M pc : Nat) : jE := jlook (jget M).2.2.2.2.2.2.2 pc
def jna (M : Nat) : Nat := (jget M).2.2.2.2.1
def jml (M : Nat) : Nat := (jget M).2.2.1
def jci (M : Nat) : Nat := (jget M).2.2.2.2.2.1
def jty (g : Nat) : FieldType := jtys.getD (g / 64) (fun _ => .int) (g % 64)
def jkind : FieldType → Nat
  | .boolean => 2
  | .object _ => 1
  | .array _ => 1
  | _ => 0
def jkd (g : Nat) : Nat := jkind (jty g)
def jfv (σ : jS) (g a : Nat) : Value := if jkd g = 1 then va_rf (jR σ g a) else .int (jI σ g a)
def jcs : List Value → Nat
  | [] => 0
  | v :: t => v.category + jcs t
abbrev jL : Type := List (Option Value)
def jclr (L : jL) (i : Nat) : jL := match i with
  | 0 => L
  | j + 1 => match L[j]? with
    | some (some w) => if w.category = 2 then L.set j none else L
    | _ => L
def jst1 (L : jL) (i : Nat) (v : Value) : jL := (jclr L i).set i (some v)
def jst2 (L : jL) (i : Nat) (v : Value) : jL := ((jclr L i).set i (some v)).set (i + 1) none
def jlay : List Value → jL
  | [] => []
  | v :: t => if v.category = 2 then some v :: none :: jlay t else some v :: jlay t
def jent (M : Nat) (as : List Value) : jL := jlay as ++ List.replicate (jml M - (jlay as).length) none
abbrev jO : Type := (Nat × jL × List Value × jS) ⊕ (Option Value ⊕ (Nat × List Value × Nat × List Value))
def jgo (n : Nat) (L : jL) (st : List Value) (σ : jS) : Option jO := some (.inl (n, L, st, σ))
def jbin (a : Nat) (x y : Int32) : Int32 :=
  if a = 0 then x + y else if a = 1 then x - y else if a = 2 then x * y else if a = 3 then x &&& y else if a = 4 then x ||| y else if a = 5 then x ^^^ y
  else if a = 6 then x <<< (y &&& 31) else if a = 7 then x >>> (y &&& 31) else if a = 8 then x / y else x - x / y * y
def jcnd (a : Nat) (x y : Int32) : Prop :=
  (a = 0 ∧ x = y) ∨ (a = 1 ∧ ¬ x = y) ∨ (a = 2 ∧ x < y) ∨ (a = 3 ∧ y ≤ x) ∨ (a = 4 ∧ y < x) ∨ (a = 5 ∧ x ≤ y)
def jcnb (a : Nat) (x y : Int32) : Bool :=
  if a = 0 then decide (x = y) else if a = 1 then !decide (x = y) else if a = 2 then decide (x < y) else if a = 3 then decide (y ≤ x) else if a = 4 then decide (y < x) else decide (x ≤ y)
def jlk : List (Int × Nat) → Nat → Int → Nat
  | [], df, _ => df
  | (k, t) :: r, df, x => if k = x then t else jlk r df x
def jcall (M : Nat) (n : Nat) (recv : Bool) (st : List Value) (σ : jS) : Option jO :=
  if st.length < jna M ∨ 8 < jcs (st.drop (jna M)) ∨ jml M < (jlay ((st.take (jna M)).reverse)).length then none
  else if recv then
    match (st.take (jna M)).reverse with
    | .ref b :: as => if jT σ b = 1 + jci M then some (.inr (.inr (M, .ref b :: as, n, st.drop (jna M)))) else none
    | _ => none
  else some (.inr (.inr (M, (st.take (jna M)).reverse, n, st.drop (jna M))))
def jcmd1 (d op a b : Nat) (k : Int) (n : Nat) (L : jL) (st : List Value) (σ : jS) : Option jO :=
  if op = 0 then jgo n L (.int (Int32.ofInt k) :: st) σ
  else if op = 1 then (match L[a]? with | some (some (.int x)) => jgo n L (.int x :: st) σ | _ => none)
  else if op = 2 then (match L[a]? with | some (some (.ref x)) => jgo n L (.ref x :: st) σ | some (some .null) => jgo n L (.null :: st) σ | _ => none)
  else if op = 3 then (match L[a]? with | some (some (.long x)) => jgo n L (.long x :: st) σ | _ => none)
  else if op = 4 then (match st with | .int x :: r => if a < L.length then jgo n (jst1 L a (.int x)) r σ else none | _ => none)
  else if op = 5 then (match st with | .ref x :: r => if a < L.length then jgo n (jst1 L a (.ref x)) r σ else none | .null :: r => if a < L.length then jgo n (jst1 L a .null) r σ else none | _ => none)
  else if op = 6 then (match st with | .long x :: r => if a + 1 < L.length then jgo n (jst2 L a (.long x)) r σ else none | _ => none)
  else if op = 7 then (match L[a]? with | some (some (.int x)) => jgo n (jst1 L a (.int (x + Int32.ofInt k))) st σ | _ => none)
  else if op = 8 then (match st with | .int y :: .int x :: r => if 8 ≤ a ∧ y = 0 then none else jgo n L (.int (jbin a x y) :: r) σ | _ => none)
  else if op = 9 then (match st with | .int x :: r => jgo n L (.int (-x) :: r) σ | _ => none)
  else if op = 10 then (match st with | .int x :: r => jgo n L (.long x.toInt64 :: r) σ | _ => none)
  else if op = 11 then (match st with | .long x :: r => jgo n L (.int x.toInt32 :: r) σ | _ => none)
  else if op = 12 then jgo n L (.long (Int64.ofInt k) :: st) σ
  else if op = 13 then (match st with | .long y :: .long x :: r => jgo n L (.long (x * y) :: r) σ | _ => none)
  else if op = 14 then (match st with | .long y :: .long x :: r => jgo n L (.int (lg_cmp x y) :: r) σ | _ => none)
  else if op = 15 then (match st with | .int x :: r => jgo n L (.int x.toInt8.toInt32 :: r) σ | _ => none)
  else if op = 16 then (match st with | v :: r => if v.category = 1 then jgo n L (v :: v :: r) σ else none | _ => none)
  else if op = 17 then (match st with | v :: w :: r => if v.category = 1 ∧ w.category = 1 then jgo n L (v :: w :: v :: w :: r) σ else none | _ => none)
  else if op = 18 then (match st with | v :: r => if v.category = 1 then jgo n L r σ else none | _ => none)
  else if op = 19 then (match st with | .int x :: r => if jcnb a x 0 then jgo b L r σ else jgo n L r σ | _ => none)
  else if op = 20 then (match st with | .int y :: .int x :: r => if jcnb a x y then jgo b L r σ else jgo n L r σ | _ => none)
  else if op = 21 then jgo b L st σ
  else if op = 22 then (match st with | .null :: r => jgo b L r σ | .ref _ :: r => jgo n L r σ | _ => none)
  else if op = 23 then (match st with | .null :: r => jgo n L r σ | .ref _ :: r => jgo b L r σ | _ => none)
  else if op = 24 then jgo n L (.null :: st) σ
  else none
def jput (n g : Nat) (L : jL) (st : List Value) (σ : jS) : Option jO :=
  match st with
  | .int x :: .ref q :: r => if jT σ q = 1 + g / 64 ∧ (jkd g = 0 ∨ (jkd g = 2 ∧ (x = 0 ∨ x = 1))) then jgo n L r (jsI σ g q x) else none
  | .ref x :: .ref q :: r => if jT σ q = 1 + g / 64 ∧ jkd g = 1 then jgo n L r (jsR σ g q (some x)) else none
  | .null :: .ref q :: r => if jT σ q = 1 + g / 64 ∧ jkd g = 1 then jgo n L r (jsR σ g q none) else none
  | _ => none
def jcmd2 (d op a b : Nat) (k : Int) (n : Nat) (L : jL) (st : List Value) (σ : jS) : Option jO :=
  if op = 25 then (match st with | .ref q :: r => if jT σ q = 1 + a / 64 then jgo n L (jfv σ a q :: r) σ else none | _ => none)
  else if op = 26 then jput n a L st σ
  else if op = 27 then jput n a L st σ
  else if op = 28 then (match st with | .int i :: .ref q :: r => if jT σ q = 20 ∨ jT σ q = 60 then (if i < 0 ∨ jN σ q ≤ i.toNatClampNeg then none else jgo n L (.int (jA σ q i.toNatClampNeg) :: r) σ) else none | _ => none)
  else if op = 29 then (match st with | .int x :: .int i :: .ref q :: r => if jT σ q = 20 then (if i < 0 ∨ jN σ q ≤ i.toNatClampNeg then none else jgo n L r (jsA σ q i.toNatClampNeg x)) else none | _ => none)
  else if op = 30 then (match st with | .int i :: .ref q :: r => if jT σ q = 21 ∨ jT σ q = 22 then (if i < 0 ∨ jN σ q ≤ i.toNatClampNeg then none else jgo n L (.int (jA σ q i.toNatClampNeg) :: r) σ) else none | _ => none)
  else if op = 31 then (match st with | .int x :: .int i :: .ref q :: r => if i < 0 ∨ jN σ q ≤ i.toNatClampNeg then none else if jT σ q = 21 then jgo n L r (jsA σ q i.toNatClampNeg x.toInt8.toInt32) else if jT σ q = 22 then jgo n L r (jsA σ q i.toNatClampNeg (x &&& 1)) else none | _ => none)
  else if op = 32 then (match st with | .int i :: .ref q :: r => if 30 ≤ jT σ q ∧ jT σ q < 50 then (if i < 0 ∨ jN σ q ≤ i.toNatClampNeg then none else jgo n L (va_rf (jG σ q i.toNatClampNeg) :: r) σ) else none | _ => none)
  else if op = 33 then (match st with | .ref x :: .int i :: .ref q :: r => if 30 ≤ jT σ q ∧ jT σ q < 50 ∧ jT σ x + 29 = jT σ q then (if i < 0 ∨ jN σ q ≤ i.toNatClampNeg then none else jgo n L r (jsG σ q i.toNatClampNeg (some x))) else none | _ => none)
  else if op = 34 then (match st with | .ref q :: r => if 20 ≤ jT σ q ∧ jT σ q ≤ 60 then jgo n L (.int (Int32.ofNat (jN σ q)) :: r) σ else none | _ => none)
  else if op = 35 then (match jcl[a]? with | some c => jgo n L (.ref (jnx σ) :: st) (jnO σ a c.2.2) | none => none)
  else if op = 36 then (match st with | .int x :: r => if x < 0 ∨ 1000000 < x.toNatClampNeg then none else jgo n L (.ref (jnx σ) :: r) (jnA σ a x.toNatClampNeg) | _ => none)
  else if op = 37 then (match st with | .int x :: r => if x < 0 ∨ 1000000 < x.toNatClampNeg then none else jgo n L (.ref (jnx σ) :: r) (jnG σ a x.toNatClampNeg) | _ => none)
  else none
def jcmd3 (d op a b : Nat) (k : Int) (n : Nat) (L : jL) (st : List Value) (σ : jS) : Option jO :=
  if op = 38 then jcall a n false st σ
  else if op = 39 then jcall a n true st σ
  else if op = 40 then jcall a n true st σ
  else if op = 41 then jcall a n false st σ
  else if op = 42 then jcall a n true st σ
  else if op = 43 then jcall a n true st σ
  else if op = 44 then (match st with | .ref _ :: r => if 1 ≤ d ∧ jcs r ≤ 8 then jgo n L r σ else none | _ => none)
  else if op = 45 then (match st with | [] => some (.inr (.inl none)) | _ => none)
  else if op = 46 then (match st with | [.int x] => some (.inr (.inl (some (.int x)))) | _ => none)
  else if op = 47 then (match st with | [.int x] => if x &&& 1 = x then some (.inr (.inl (some (.int x)))) else none | _ => none)
  else if op = 48 then (match st with | [.ref x] => some (.inr (.inl (some (.ref x)))) | [.null] => some (.inr (.inl (some .null))) | _ => none)
  else if op = 49 then (match st with | [.long x] => some (.inr (.inl (some (.long x)))) | _ => none)
  else if op = 50 then (match st, jts[a]? with
    | .int x :: r, some (lo, hi, df, ts) => if x.toInt < lo ∨ hi < x.toInt then jgo df L r σ else (match ts[(x.toInt - lo).toNat]? with | some t => jgo t L r σ | none => none)
    | _, _ => none)
  else if op = 51 then (match st, jls[a]? with
    | .int x :: r, some (df, ps) => jgo (jlk ps df x.toInt) L r σ
    | _, _ => none)
  else none
/-- the names' bytes -/
def jnml : List Int32 := [115, 101, 116, 109, 111, 118, 97, 100, 100, 115, 117, 98, 97, 110, 100, 111, 114, 32, 120, 111, 114, 109, 117, 108, 105, 110, 99, 100, 101, 99, 110, 111, 116, 110, 101, 103, 115, 104, 108, 115, 104, 114, 115, 101, 108, 103, 101, 116, 112, 117, 116, 110, 111, 112, 115, 119, 112]
def jnmb (i : Nat) : Int32 := jnml.getD i 0
def jNAMES : String := "setmovaddsubandor xormulincdecnotnegshlshrselgetputnopswp"
/-- a stretch of one row of ints comes into another -/
def jcp (σ : jS) (p sp q dp x : Nat) : jS := (jT σ, jN σ, jI σ, jR σ, (fun a i => if a = q then va_cpy (jA σ p) (jA σ q) sp dp x i else jA σ a i), jG σ, jnx σ, jsl σ)
/-- 52 a static row, 53 the names, 54 a call on them, 55 COMPACT_STRINGS, 56 arraycopy, 57 value, 58 coder, 59 the formatter, 60 i2c, 61 a char or byte is answered, 62 a byte of the names, 63 how many -/
def jcmd4 (d op a b : Nat) (k : Int) (n : Nat) (L : jL) (st : List Value) (σ : jS) : Option jO :=
  if op = 52 then (if jT σ 3 = 61 ∧ (a = 1 ∨ a = 2) then jgo n L (.ref a :: st) σ else none)
  else if op = 53 then (if jT σ 3 = 61 then jgo n L (.ref 3 :: st) σ else none)
  else if op = 54 then (match (st.take (jna a)).reverse with | .ref q :: _ => if q = 3 ∧ jT σ 3 = 61 then jcall a n false st σ else none | _ => none)
  else if op = 55 then (if jT σ 3 = 61 then jgo n L (.int 1 :: st) σ else none)
  else if op = 56 then (match st with | .int x :: .int y :: .ref q :: .int i :: .ref p :: r => if (jT σ p = 20 ∧ jT σ q = 20) ∧ (1 ≤ d ∧ jcs r ≤ 8) ∧ (¬ i < 0 ∧ ¬ y < 0 ∧ ¬ x < 0) ∧ i.toNatClampNeg + x.toNatClampNeg ≤ jN σ p ∧ y.toNatClampNeg + x.toNatClampNeg ≤ jN σ q then jgo n L r (jcp σ p i.toNatClampNeg q y.toNatClampNeg x.toNatClampNeg) else none | _ => none)
  else if op = 57 then (match st with | .ref q :: r => if q = 3 ∧ jT σ 3 = 61 then jgo n L (.ref 4 :: r) σ else none | _ => none)
  else if op = 58 then (match st with | .ref q :: r => if q = 3 ∧ jT σ 3 = 61 then jgo n L (.int 0 :: r) σ else none | _ => none)
  else if op = 59 then (if jT σ 3 = 61 then jgo n L (va_rf (jR σ 0 3) :: st) σ else none)
  else if op = 60 then (match st with | .int x :: r => jgo n L (.int (x.toUInt32 % 65536).toInt32 :: r) σ | _ => none)
  else if op = 61 then (match st with | [.int x] => if (a = 0 ∧ x.toUInt32.toUInt16.toUInt32.toInt32 = x) ∨ (a = 1 ∧ x.toInt8.toInt32 = x) then some (.inr (.inl (some (.int x)))) else none | _ => none)
  else if op = 62 then (match st with | .int i :: .ref q :: r => if (q = 4 ∧ jT σ 3 = 61) ∧ ¬ (i < 0 ∨ 57 ≤ i.toNatClampNeg) then jgo n L (.int (jnmb i.toNatClampNeg) :: r) σ else none | _ => none)
  else if op = 63 then (match st with | .ref q :: r => if q = 4 ∧ jT σ 3 = 61 then jgo n L (.int 57 :: r) σ else none | _ => none)
  else none
def jcmd (d : Nat) (e : jE) (L : jL) (st : List Value) (σ : jS) : Option jO :=
  if e.1 < 25 then jcmd1 d e.1 e.2.1 e.2.2.1 e.2.2.2.1 e.2.2.2.2 L st σ
  else if e.1 < 38 then jcmd2 d e.1 e.2.1 e.2.2.1 e.2.2.2.1 e.2.2.2.2 L st σ
  else if e.1 < 52 then jcmd3 d e.1 e.2.1 e.2.2.1 e.2.2.2.1 e.2.2.2.2 L st σ
  else jcmd4 d e.1 e.2.1 e.2.2.1 e.2.2.2.1 e.2.2.2.2 L st σ
abbrev jr : Type := Option (Option Value × jS)
def jrun : Nat → Nat → Nat → Nat → jL → List Value → jS → jr
  | 0, _, _, _, _, _, _ => none
  | f + 1, d, M, pc, L, st, σ => match jcmd d (jcode M pc) L st σ with
    | none => none
    | some (.inl (pc', L', st', σ')) => jrun f d M pc' L' st' σ'
    | some (.inr (.inl v)) => some (v, σ)
    | some (.inr (.inr (M', as, n, rest))) => match d with
      | 0 => none
      | d' + 1 => match jrun f d' M' 0 (jent M' as) [] σ with
        | none => none
        | some (v, σ') => jrun f (d' + 1) M n L (v.toList ++ rest) σ'
