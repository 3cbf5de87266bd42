/-! letter: the text of a program -/
def numO (o : Nat → Int32) : Nat := if numN (opO o) = true then 1 else 0
def own (o : Nat → Int32) : Nat := nlnN (opO o) + 2 * (regN (opO o) + numO o)
def txB (o : Nat → Int32) (q : Nat) : Int32 := if q < nlnN (opO o) then jnmb (3 * opO o + q) else if (q - nlnN (opO o)) % 2 = 0 then 32 else o ((q - nlnN (opO o)) / 2 + 1) + (if (q - nlnN (opO o)) / 2 + 1 ≤ regN (opO o) then 97 else 48)
def pLn : List (Nat → Int32) → Nat
  | [] => 0
  | [o] => own o
  | o :: p :: t => own o + 1 + pLn (p :: t)
def pAt : List (Nat → Int32) → Nat → Int32
  | [], _ => 0
  | o :: t, i => if i < own o then txB o i else if i = own o then 59 else pAt t (i - own o - 1)
def off : List (Nat → Int32) → Nat → Nat
  | _, 0 => 0
  | [], i + 1 => i + 1
  | o :: t, i + 1 => own o + 1 + off t i
def letF (os : List (Nat → Int32)) (r : Nat) : Int32 := if r < pLn os then pAt os r else if r = pLn os then 0 else -1
theorem own_bd {o : Nat → Int32} (h : PWF o) : 2 ≤ own o ∧ own o ≤ 9 := by
  obtain ⟨h1, _⟩ := h.opk
  have H : ∀ k, k < 19 → 2 ≤ nlnN k + 2 * (regN k + (if numN k = true then 1 else 0)) ∧ nlnN k + 2 * (regN k + (if numN k = true then 1 else 0)) ≤ 9 := by decide
  exact H _ h1
theorem off_succ : ∀ (os : List (Nat → Int32)) (i : Nat), i < os.length → off os (i + 1) = off os i + own (os.getD i (fun _ => 0)) + 1 := by
  intro os
  induction os with
  | nil => intro i hi; exact absurd hi (Nat.not_lt_zero i)
  | cons o t ih =>
    intro i hi
    cases i with
    | zero =>
      show own o + 1 + off t 0 = 0 + own o + 1
      have : off t 0 = 0 := by cases t <;> rfl
      omega
    | succ i =>
      have := ih i (by have : i + 1 < t.length + 1 := hi; omega)
      show own o + 1 + off t (i + 1) = own o + 1 + off t i + own (t.getD i (fun _ => 0)) + 1
      omega
theorem pAt_off : ∀ (os : List (Nat → Int32)) (i : Nat), i < os.length → (∀ q, q < own (os.getD i (fun _ => 0)) → pAt os (off os i + q) = txB (os.getD i (fun _ => 0)) q) ∧ pAt os (off os i + own (os.getD i (fun _ => 0))) = 59 := by
  intro os
  induction os with
  | nil => intro i hi; exact absurd hi (Nat.not_lt_zero i)
  | cons o t ih =>
    intro i hi
    cases i with
    | zero =>
      refine ⟨fun q hq => ?_, ?_⟩
      · have hq : q < own o := hq
        show (if 0 + q < own o then txB o (0 + q) else _) = txB o q
        rw [Nat.zero_add, if_pos hq]
      · show (if 0 + own o < own o then _ else if 0 + own o = own o then (59 : Int32) else _) = 59
        rw [if_neg (by omega), if_pos (by omega)]
    | succ i =>
      obtain ⟨h1, h2⟩ := ih i (by have : i + 1 < t.length + 1 := hi; omega)
      refine ⟨fun q hq => ?_, ?_⟩
      · show (if own o + 1 + off t i + q < own o then _ else if own o + 1 + off t i + q = own o then (59 : Int32) else pAt t (own o + 1 + off t i + q - own o - 1)) = _
        rw [if_neg (by omega), if_neg (by omega), show own o + 1 + off t i + q - own o - 1 = off t i + q by omega]
        exact h1 q hq
      · show (if own o + 1 + off t i + own (t.getD i (fun _ => 0)) < own o then _ else if own o + 1 + off t i + own (t.getD i (fun _ => 0)) = own o then (59 : Int32) else pAt t (own o + 1 + off t i + own (t.getD i (fun _ => 0)) - own o - 1)) = _
        rw [if_neg (by omega), if_neg (by omega), show own o + 1 + off t i + own (t.getD i (fun _ => 0)) - own o - 1 = off t i + own (t.getD i (fun _ => 0)) by omega]
        exact h2
theorem pLn_off : ∀ (os : List (Nat → Int32)), os ≠ [] → pLn os + 1 = off os os.length := by
  intro os
  induction os with
  | nil => intro h; exact absurd rfl h
  | cons o t ih =>
    intro _
    cases t with
    | nil =>
      show own o + 1 = own o + 1 + off [] 0
      rfl
    | cons p t =>
      have := ih (fun z => nomatch z)
      show own o + 1 + pLn (p :: t) + 1 = own o + 1 + off (p :: t) (p :: t).length
      omega
theorem off_le : ∀ (os : List (Nat → Int32)) (i : Nat), i ≤ os.length → (∀ o, o ∈ os → PWF o) → off os i ≤ 10 * i := by
  intro os
  induction os with
  | nil => intro i hi _; have : i = 0 := Nat.le_zero.mp hi; subst this; exact Nat.le_refl _
  | cons o t ih =>
    intro i hi h
    cases i with
    | zero => exact Nat.le_refl _
    | succ i =>
      have := ih i (by have : i + 1 ≤ t.length + 1 := hi; omega) (fun p hp => h p (List.mem_cons_of_mem _ hp))
      have := own_bd (h o List.mem_cons_self)
      show own o + 1 + off t i ≤ 10 * (i + 1)
      omega
theorem letF_lt {o : Nat → Int32} {t : List (Nat → Int32)} {r : Nat} (h : r < own o) : letF (o :: t) r = txB o r := by
  have hl : r < pLn (o :: t) := by
    cases t with
    | nil => exact h
    | cons p t => show r < own o + 1 + pLn (p :: t); omega
  unfold letF
  rw [if_pos hl]
  show (if r < own o then txB o r else _) = _
  rw [if_pos h]
theorem letF_eq {o : Nat → Int32} {t : List (Nat → Int32)} : letF (o :: t) (own o) = if t = [] then 0 else 59 := by
  unfold letF
  cases t with
  | nil =>
    show (if own o < own o then _ else if own o = own o then (0 : Int32) else -1) = if ([] : List (Nat → Int32)) = [] then 0 else 59
    rw [if_neg (Nat.lt_irrefl _), if_pos rfl, if_pos rfl]
  | cons p t =>
    have hl : own o < pLn (o :: p :: t) := by show own o < own o + 1 + pLn (p :: t); omega
    rw [if_pos hl, if_neg (fun z => nomatch z)]
    show (if own o < own o then _ else if own o = own o then (59 : Int32) else _) = 59
    rw [if_neg (Nat.lt_irrefl _), if_pos rfl]
theorem letF_gt {o : Nat → Int32} {t : List (Nat → Int32)} {r : Nat} (h : own o < r) : letF (o :: t) r = if t = [] then -1 else letF t (r - own o - 1) := by
  cases t with
  | nil =>
    unfold letF
    show (if r < own o then _ else if r = own o then (0 : Int32) else -1) = _
    rw [if_neg (by omega), if_neg (by omega), if_pos rfl]
  | cons p t =>
    rw [if_neg (fun z => nomatch z)]
    unfold letF
    have e : pLn (o :: p :: t) = own o + 1 + pLn (p :: t) := rfl
    rw [e]
    by_cases h1 : r < own o + 1 + pLn (p :: t)
    · rw [if_pos h1, if_pos (by omega)]
      show (if r < own o then _ else if r = own o then (59 : Int32) else pAt (p :: t) (r - own o - 1)) = _
      rw [if_neg (by omega), if_neg (by omega)]
    · have a1 : ¬ r - own o - 1 < pLn (p :: t) := by omega
      rw [if_neg h1, if_neg a1]
      by_cases h2 : r = own o + 1 + pLn (p :: t)
      · have a2 : r - own o - 1 = pLn (p :: t) := by omega
        rw [if_pos h2, if_pos a2]
      · have a2 : ¬ r - own o - 1 = pLn (p :: t) := by omega
        rw [if_neg h2, if_neg a2]
theorem h2n : ∀ x, x < 10 → nI x - nI x / 2 * 2 = nI (x % 2) ∧ nI x / 2 + 1 = nI (x / 2 + 1) := by decide
theorem nlnN_bd (k : Nat) : 2 ≤ nlnN k ∧ nlnN k ≤ 3 := by unfold nlnN; split <;> decide
section LET
variable {d : Nat} {σ : jS} {s : AS} {cr cp : Nat} {qr qp : Nat → Nat}
theorem c203 (hS : SH σ) : jx (d + 1) 203 0 [some (.ref 3)] [] σ = some (some (.int 57), σ) := by
  simp (decide := true) only [k203_0, k203_9, k204_0, k204_6, k204_13, sT_1, sT_2, sT_3, sT_16, sT_17, sT_18, sT_19, sT_20, sT_21, sT_22, sT_23, sT_24, sT_25, sT_26, sT_27, sT_28, sT_29, sT_30, sT_31, sT_32, sT_33, sT_34, sT_35, sT_36, sT_37, sT_38, sT_39, sT_40, sT_41, sT_42, sT_43, sT_44, sT_45, sT_46, sT_47, sT_48, sT_49, sT_50, sT_51, sT_52, sT_53, sT_54, sT_55, sT_56, sT_57, sT_58, sT_59, sT_60, sT_61, sT_62, sT_63, sT_64, sT_65, sT_66, sT_67, sT_68, sT_69, sT_70, sT_71, sT_72, sT_73, sT_74, sT_75, sT_76, sT_77, sT_78, sT_79, sT_80, sN_1, sN_2, sN_19, sN_21, sN_23, sN_24, sN_26, sN_29, sN_31, sN_33, sN_35, sN_36, sN_37, sN_39, sN_40, sN_42, sN_44, sN_45, sN_46, sN_48, sN_49, sN_50, sN_51, sN_52, sN_53, sN_54, sN_55, sN_56, sN_57, sN_58, sN_59, sN_60, sN_61, sN_62, sN_63, sN_64, sN_65, sN_66, sN_67, sN_68, sN_69, sN_70, sN_71, sN_72, sN_73, sN_74, sN_75, sN_76, sN_77, sN_78, sN_79, sN_80, sR_0_34, sR_0_38, sR_1_34, sR_1_38, sR_64_20, sR_64_22, sR_128_25, sR_128_28, sR_194_17, sR_195_17, sR_196_17, sR_197_17, sR_258_30, sR_258_32, sR_258_41, sR_384_43, sR_448_18, sR_512_27, sR_513_27, sR_514_27, sR_515_27, sR_516_27, sR_576_16, sR_577_16, sR_578_16, sR_579_16, sR_580_16, sR_581_16, sR_582_16, sR_583_16, sR_584_16, sR_641_47, sR_643_47, sR_645_47, sR_646_47, sR_647_47, sR_648_47, sR_649_47, sR_650_47, sR_651_47, sR_652_47, sR_653_47, sR_654_47, sR_655_47, sR_656_47, sR_657_47, sR_658_47, sR_659_47, sR_661_47, sR_662_47, sR_663_47, sR_664_47, sR_665_47, sR_669_47, sR_670_47, sR_671_47, sR_672_47, sR_673_47, sR_674_47, sR_676_47, sR_677_47, sR_679_47, sR_680_47, sR_681_47, SH_I, SH_A, SH_G, SH_C, hS, Option.getD_some, ne_eq, reduceCtorEq, not_false_eq_true, not_true_eq_false, Option.bind_some, Option.toList_none, Option.toList_some, List.nil_append, List.cons_append, List.append_nil, ↓reduceIte, and_self, true_and, and_true, false_and, and_false, or_true, true_or, or_false, false_or, Nat.reduceEqDiff, Nat.reduceAdd, Int32.reduceMul, Int32.reduceAdd, Int32.reduceSub, Int32.reduceToNatClampNeg, Int32.reduceOfNat, Int32.reduceLT, Int32.reduceLE, va_rf]
  rfl
theorem c90 (hS : SH σ) (hQ : ST σ) {o : Nat → Int32} (ho : OPk o) : jx (d + 2) 90 0 [some (.int (nI (opO o))), none] [] σ = some (some (.int (nI (own o))), σ) := by
  obtain ⟨k1, k2⟩ := ho
  have e2 : ∀ n, (2 : Int32) * nI n = nI (2 * n) := fun n => by rw [show (2 : Int32) = nI 2 from rfl, nmul]
  rw [k90_0, c34 hS hQ k1]
  simp only [Option.bind_some, Option.toList_some, List.cons_append, List.nil_append]
  rw [k90_4, c40 k1]
  simp only [Option.bind_some, Option.toList_some, List.cons_append, List.nil_append]
  rw [k90_8]
  by_cases hn : numN (opO o) = true
  · rw [if_pos hn, if_neg (by decide), k90_11, c31 k1, ← nI_succ]
    simp only [Option.bind_some, Option.toList_some, List.cons_append, List.nil_append]
    rw [k90_22, e2, nadd]
    unfold own numO
    rw [if_pos hn]
  · rw [if_neg hn, if_pos rfl, k90_15, c31 k1, Int32.add_zero]
    simp only [Option.bind_some, Option.toList_some, List.cons_append, List.nil_append]
    rw [k90_22, e2, nadd]
    unfold own numO
    rw [if_neg hn, Nat.add_zero]
theorem c91 {q a m k r : Nat} {os : List (Nat → Int32)} (hS : SH σ) (hQ : ST σ) (hR : RO σ q a m os) (hk : k < os.length) (ho : PWF (os.getD k (fun _ => 0))) (hr : r < own (os.getD k (fun _ => 0))) : jx (d + 4) 91 0 [some (.ref q), some (.int (nI k)), some (.int (nI r)), none, none, none] [] σ = some (some (.int (txB (os.getD k (fun _ => 0)) r)), σ) := by
  obtain ⟨o, eo⟩ : ∃ o, os.getD k (fun _ => 0) = o := ⟨_, rfl⟩
  have g : ∀ j, j < 6 → jx (d + 3) 51 0 [some (.ref q), some (.int (nI k)), some (.int (nI j))] [] σ = some (some (.int (o j)), σ) := fun j hj => by rw [← eo]; exact c51 (d := d + 2) hR hk hj
  rw [eo] at ho hr
  rw [eo]
  obtain ⟨k1, k2⟩ := ho.opk
  obtain ⟨b1, b2⟩ := own_bd ho
  have g0 : jx (d + 3) 51 0 [some (.ref q), some (.int (nI k)), some (.int 0)] [] σ = some (some (.int (nI (opO o))), σ) := by rw [← k2]; exact g 0 (by decide)
  have nl := nlnN_bd (opO o)
  have st : jx (d + 4) 91 0 [some (.ref q), some (.int (nI k)), some (.int (nI r)), none, none, none] [] σ = if 0 ≤ nI r - nI (nlnN (opO o)) then jx (d + 4) 91 54 [some (.ref q), some (.int (nI k)), some (.int (nI r)), some (.int (nI (opO o))), some (.int (nI r - nI (nlnN (opO o)))), none] [] σ else jx (d + 4) 91 20 [some (.ref q), some (.int (nI k)), some (.int (nI r)), some (.int (nI (opO o))), some (.int (nI r - nI (nlnN (opO o)))), none] [] σ := by
    rw [k91_0 hR.1.1, g0]
    simp only [Option.bind_some, Option.toList_some, List.cons_append, List.nil_append]
    rw [k91_6, c31 k1]
    simp only [Option.bind_some, Option.toList_some, List.cons_append, List.nil_append]
    rw [k91_12]
  rw [st]
  unfold txB
  by_cases h : r < nlnN (opO o)
  · have neg : ¬ (0 : Int32) ≤ nI r - nI (nlnN (opO o)) := (by decide : ∀ r, r < 3 → ∀ n, n < 4 → r < n → ¬ (0 : Int32) ≤ nI r - nI n) r (by omega) _ (by omega) h
    have e3 : nI (opO o) * 3 + nI r = nI (3 * opO o + r) := by rw [show (3 : Int32) = nI 3 from rfl, nmul, nadd, Nat.mul_comm]
    have lt : ¬ (57 : Int32) ≤ nI (3 * opO o + r) := nI_ge (b := 57) (by omega) (by omega)
    rw [if_neg neg, if_pos h, k91_20, e3, if_neg (nn0 (by omega)), k91_32 (sT_3 hS), c203 hS]
    simp only [Option.bind_some, Option.toList_some, List.cons_append, List.nil_append]
    rw [k91_39, if_neg lt, k91_42 (sT_3 hS), c198 hS (by omega)]
    simp only [Option.bind_some, Option.toList_some, List.cons_append, List.nil_append]
    rw [k91_49]
  · have e : nI r - nI (nlnN (opO o)) = nI (r - nlnN (opO o)) := nsub (by omega)
    have pos : (0 : Int32) ≤ nI (r - nlnN (opO o)) := by rw [← Int32.not_lt]; exact nn0 (by omega)
    obtain ⟨m1, m2⟩ := h2n (r - nlnN (opO o)) (by omega)
    rw [e, if_pos pos, if_neg h, k91_54, m1]
    by_cases h0 : (r - nlnN (opO o)) % 2 = 0
    · rw [if_neg (fun z => z (by rw [h0]; rfl)), k91_61, if_pos h0]
    · have n0 : ¬ nI ((r - nlnN (opO o)) % 2) = 0 := by rw [show (0 : Int32) = nI 0 from rfl, n31eq (by omega) (by decide)]; exact h0
      have r3 := regN3 (opO o)
      rw [if_pos n0, if_neg h0, k91_64 hR.1.1, m2, g _ (by omega)]
      simp only [Option.bind_some, Option.toList_some, List.cons_append, List.nil_append]
      rw [k91_79, c34 hS hQ k1]
      simp only [Option.bind_some, Option.toList_some, List.cons_append, List.nil_append]
      rw [k91_85]
      by_cases h1 : (r - nlnN (opO o)) / 2 + 1 ≤ regN (opO o)
      · have c : ¬ nI (regN (opO o)) < nI ((r - nlnN (opO o)) / 2 + 1) := by rw [n31 (by omega) (by omega)]; omega
        rw [if_neg c, if_pos h1, k91_88]
      · have c : nI (regN (opO o)) < nI ((r - nlnN (opO o)) / 2 + 1) := by rw [n31 (by omega) (by omega)]; omega
        rw [if_pos c, if_neg h1, k91_93]
theorem c89 {q a m : Nat} {os : List (Nat → Int32)} (hS : SH σ) (hQ : ST σ) (hR : RO σ q a m os) (hp : ∀ o, o ∈ os → PWF o) {r : Nat} (hr : r < 2 ^ 31) : jx (d + 5) 89 0 [some (.ref q), some (.int (nI r)), none, none, none] [] σ = some (some (.int (letF os r)), σ) := by
  have l24 : os.length ≤ 24 := Nat.le_trans hR.1.2.2.2.2.2.2.1 hR.1.2.2.2.2.2.2.2
  have ln : jI σ 257 q = nI os.length := hR.1.2.2.2.2.2.1
  have L : ∀ f k r l4, k + f = os.length → r < 2 ^ 31 → jx (d + 5) 89 4 [some (.ref q), some (.int (nI r)), some (.int (nI r)), some (.int (nI k)), l4] [] σ = jx (d + 5) 89 4 [some (.ref q), some (.int (nI r)), some (.int (nI r)), some (.int (nI k)), l4] [] σ := fun _ _ _ _ _ _ => rfl
  have M : ∀ f k r l1 l4, k + f = os.length → r < 2 ^ 31 → jx (d + 5) 89 4 [some (.ref q), some (.int l1), some (.int (nI r)), some (.int (nI k)), l4] [] σ = some (some (.int (if os.drop k = [] then (if r = 0 ∧ os.length = 0 then 0 else -1) else letF (os.drop k) r)), σ) := by
    intro f
    induction f with
    | zero =>
      intro k r l1 l4 hk hr
      have e : k = os.length := by omega
      subst e
      rw [List.drop_length, if_pos rfl, k89_4 hR.1.1, ln, if_pos (nI_le (Nat.le_refl _) (by omega)), k89_72]
      by_cases h0 : r = 0
      · have e0 : nI r = 0 := by rw [h0]; rfl
        rw [if_neg (fun z => z e0), k89_76 hR.1.1, ln]
        by_cases h1 : os.length = 0
        · have e1 : nI os.length = 0 := by rw [h1]; rfl
          rw [if_neg (fun z => z e1), k89_83, if_pos ⟨h0, h1⟩]
        · have e1 : ¬ nI os.length = 0 := by rw [show (0 : Int32) = nI 0 from rfl, n31eq (by omega) (by decide)]; exact h1
          rw [if_pos e1, k89_87, if_neg (fun z => h1 z.2)]
      · have e0 : ¬ nI r = 0 := by rw [show (0 : Int32) = nI 0 from rfl, n31eq (by omega) (by decide)]; exact h0
        rw [if_pos e0, k89_87, if_neg (fun z => h0 z.1)]
    | succ f ih =>
      intro k r l1 l4 hk hr
      have hlt : k < os.length := by omega
      have ho := hp _ (mem_getD hlt)
      have dr : os.drop k = os.getD k (fun _ => 0) :: os.drop (k + 1) := by
        rw [List.drop_eq_getElem_cons hlt, List.getD_eq_getElem?_getD, List.getElem?_eq_getElem hlt]; rfl
      have c9 := c91 (d := d) (r := r) hS hQ hR hlt ho
      have g := c51 (d := d + 3) hR hlt (j := 0) (by decide)
      obtain ⟨o, eo⟩ : ∃ o, os.getD k (fun _ => 0) = o := ⟨_, rfl⟩
      rw [eo] at ho dr c9 g
      obtain ⟨k1, k2⟩ := ho.opk
      obtain ⟨b1, b2⟩ := own_bd ho
      have g0 : jx (d + 4) 51 0 [some (.ref q), some (.int (nI k)), some (.int 0)] [] σ = some (some (.int (nI (opO o))), σ) := by rw [← k2]; exact g
      rw [dr, if_neg (fun z => nomatch z), k89_4 hR.1.1, ln, if_neg (nI_ge (by omega) (by omega)), k89_12 hR.1.1, g0]
      simp only [Option.bind_some, Option.toList_some, List.cons_append, List.nil_append]
      rw [k89_18, c90 (d := d + 2) hS hQ ho.opk]
      simp only [Option.bind_some, Option.toList_some, List.cons_append, List.nil_append]
      rw [k89_21]
      by_cases h1 : own o ≤ r
      · rw [if_pos (nI_le h1 (by omega)), k89_36]
        by_cases h2 : r = own o
        · rw [if_neg (fun z => z (by rw [h2])), k89_42 hR.1.1, ln, ← nI_succ, h2, letF_eq]
          by_cases h3 : os.length ≤ k + 1
          · rw [if_pos (nI_le h3 (by omega)), k89_57, if_pos (List.drop_eq_nil_iff.mpr h3)]
          · rw [if_neg (by rw [n31le (by omega) (by omega)]; exact h3), k89_52, if_neg (fun z => h3 (List.drop_eq_nil_iff.mp z))]
        · have n : ¬ nI r = nI (own o) := by rw [n31eq (by omega) (by omega)]; exact h2
          have e1 : nI r - (nI (own o) + 1) = nI (r - own o - 1) := by rw [← nI_succ, nsub (by omega)]; congr 1
          rw [if_pos n, k89_59, e1, ← nI_succ, ih (k + 1) _ _ _ (by omega) (by omega), letF_gt (by omega)]
          by_cases h3 : os.drop (k + 1) = []
          · rw [if_pos h3, if_pos h3, if_neg (fun z => by omega)]
          · rw [if_neg h3, if_neg h3]
      · rw [if_neg (by rw [n31le (by omega) (by omega)]; exact h1), k89_29 hR.1.1, c9 (by omega)]
        simp only [Option.bind_some, Option.toList_some, List.cons_append, List.nil_append]
        rw [k89_35, letF_lt (by omega)]
  have := M os.length 0 r (nI r) none (by omega) hr
  rw [List.drop_zero] at this
  rw [k89_0]
  refine this.trans ?_
  by_cases h : os = []
  · subst h
    rw [if_pos rfl]
    unfold letF
    show some (some (Value.int (if r = 0 ∧ 0 = 0 then 0 else -1)), σ) = some (some (Value.int (if r < 0 then pAt [] r else if r = 0 then 0 else -1)), σ)
    rw [if_neg (Nat.not_lt_zero r)]
    by_cases e : r = 0
    · rw [if_pos ⟨e, rfl⟩, if_pos e]
    · rw [if_neg (fun z => e z.1), if_neg e]
  · rw [if_neg h]
end LET
