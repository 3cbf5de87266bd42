/-! words for blocks of code; the state's equations; switches -/
def jin (N : Nat) (i : Int32) : Prop := ¬ (i < 0 ∨ N ≤ i.toNatClampNeg)
theorem jx_getQ {d M pc n a b : Nat} {k : Int} {L : jL} {st : List Value} {σ : jS} (hc : jcode M pc = (25, a, b, k, n)) (hk : jkd a = 1) {q t : Nat} (ht : 1 + a / 64 = t) (hT : jT σ q = t) (hR : jR σ a q ≠ none) : jx d M pc L (.ref q :: st) σ = jx d M n L (.ref ((jR σ a q).getD 0) :: st) σ := by
  rw [jx_getR hc hk ht hT]
  cases h : jR σ a q with
  | none => exact absurd h hR
  | some x => rfl
def jsw (a : Nat) (x : Int32) : Nat := match jts[a]? with
  | some (lo, hi, df, ts) => if x.toInt < lo ∨ hi < x.toInt then df else ts.getD (x.toInt - lo).toNat df
  | none => 0
theorem jx_tsx {d M pc n a b : Nat} {k : Int} {L : jL} {st : List Value} {σ : jS} (hc : jcode M pc = (50, a, b, k, n)) {x : Int32} {lo hi : Int} {df : Nat} {ts : List Nat} (ht : jts[a]? = some (lo, hi, df, ts)) (hl : (ts.length : Int) = hi - lo + 1) : jx d M pc L (.int x :: st) σ = jx d M (jsw a x) L st σ := by
  have e : jsw a x = if x.toInt < lo ∨ hi < x.toInt then df else ts.getD (x.toInt - lo).toNat df := by unfold jsw; rw [ht]
  by_cases h : x.toInt < lo ∨ hi < x.toInt
  · rw [e, if_pos h]; exact jx_tswD hc ht h
  · rw [e, if_neg h]
    have h2 : (x.toInt - lo).toNat < ts.length := by omega
    refine jx_tsw hc ht h ?_
    rw [List.getD_eq_getElem?_getD, List.getElem?_eq_getElem h2]; rfl
theorem zI_T (σ : jS) (g a : Nat) (v : Int32) : jT (jsI σ g a v) = jT σ := id rfl
theorem zI_N (σ : jS) (g a : Nat) (v : Int32) : jN (jsI σ g a v) = jN σ := id rfl
theorem zI_R (σ : jS) (g a : Nat) (v : Int32) : jR (jsI σ g a v) = jR σ := id rfl
theorem zI_A (σ : jS) (g a : Nat) (v : Int32) : jA (jsI σ g a v) = jA σ := id rfl
theorem zI_G (σ : jS) (g a : Nat) (v : Int32) : jG (jsI σ g a v) = jG σ := id rfl
theorem zI_nx (σ : jS) (g a : Nat) (v : Int32) : jnx (jsI σ g a v) = jnx σ := id rfl
theorem zI_sl (σ : jS) (g a : Nat) (v : Int32) : jsl (jsI σ g a v) = jsl σ := id rfl
theorem zI_I (σ : jS) (g a : Nat) (v : Int32) (g2 a2 : Nat) : jI (jsI σ g a v) g2 a2 = if g2 = g ∧ a2 = a then v else jI σ g2 a2 := id rfl
theorem zR_T (σ : jS) (g a : Nat) (v : Option Nat) : jT (jsR σ g a v) = jT σ := id rfl
theorem zR_N (σ : jS) (g a : Nat) (v : Option Nat) : jN (jsR σ g a v) = jN σ := id rfl
theorem zR_I (σ : jS) (g a : Nat) (v : Option Nat) : jI (jsR σ g a v) = jI σ := id rfl
theorem zR_A (σ : jS) (g a : Nat) (v : Option Nat) : jA (jsR σ g a v) = jA σ := id rfl
theorem zR_G (σ : jS) (g a : Nat) (v : Option Nat) : jG (jsR σ g a v) = jG σ := id rfl
theorem zR_nx (σ : jS) (g a : Nat) (v : Option Nat) : jnx (jsR σ g a v) = jnx σ := id rfl
theorem zR_sl (σ : jS) (g a : Nat) (v : Option Nat) : jsl (jsR σ g a v) = jsl σ := id rfl
theorem zR_R (σ : jS) (g a : Nat) (v : Option Nat) (g2 a2 : Nat) : jR (jsR σ g a v) g2 a2 = if g2 = g ∧ a2 = a then v else jR σ g2 a2 := id rfl
theorem zA_T (σ : jS) (a i : Nat) (v : Int32) : jT (jsA σ a i v) = jT σ := id rfl
theorem zA_N (σ : jS) (a i : Nat) (v : Int32) : jN (jsA σ a i v) = jN σ := id rfl
theorem zA_I (σ : jS) (a i : Nat) (v : Int32) : jI (jsA σ a i v) = jI σ := id rfl
theorem zA_R (σ : jS) (a i : Nat) (v : Int32) : jR (jsA σ a i v) = jR σ := id rfl
theorem zA_G (σ : jS) (a i : Nat) (v : Int32) : jG (jsA σ a i v) = jG σ := id rfl
theorem zA_nx (σ : jS) (a i : Nat) (v : Int32) : jnx (jsA σ a i v) = jnx σ := id rfl
theorem zA_sl (σ : jS) (a i : Nat) (v : Int32) : jsl (jsA σ a i v) = jsl σ := id rfl
theorem zA_A (σ : jS) (a i : Nat) (v : Int32) (a2 i2 : Nat) : jA (jsA σ a i v) a2 i2 = if a2 = a ∧ i2 = i then v else jA σ a2 i2 := id rfl
theorem zG_T (σ : jS) (a i : Nat) (v : Option Nat) : jT (jsG σ a i v) = jT σ := id rfl
theorem zG_N (σ : jS) (a i : Nat) (v : Option Nat) : jN (jsG σ a i v) = jN σ := id rfl
theorem zG_I (σ : jS) (a i : Nat) (v : Option Nat) : jI (jsG σ a i v) = jI σ := id rfl
theorem zG_R (σ : jS) (a i : Nat) (v : Option Nat) : jR (jsG σ a i v) = jR σ := id rfl
theorem zG_A (σ : jS) (a i : Nat) (v : Option Nat) : jA (jsG σ a i v) = jA σ := id rfl
theorem zG_nx (σ : jS) (a i : Nat) (v : Option Nat) : jnx (jsG σ a i v) = jnx σ := id rfl
theorem zG_sl (σ : jS) (a i : Nat) (v : Option Nat) : jsl (jsG σ a i v) = jsl σ := id rfl
theorem zG_G (σ : jS) (a i : Nat) (v : Option Nat) (a2 i2 : Nat) : jG (jsG σ a i v) a2 i2 = if a2 = a ∧ i2 = i then v else jG σ a2 i2 := id rfl
theorem zO_T (σ : jS) (c n : Nat) (a2 : Nat) : jT (jnO σ c n) a2 = if a2 = jnx σ then 1 + c else jT σ a2 := id rfl
theorem zO_N (σ : jS) (c n : Nat) : jN (jnO σ c n) = jN σ := id rfl
theorem zO_I (σ : jS) (c n : Nat) (g2 a2 : Nat) : jI (jnO σ c n) g2 a2 = if a2 = jnx σ then 0 else jI σ g2 a2 := id rfl
theorem zO_R (σ : jS) (c n : Nat) (g2 a2 : Nat) : jR (jnO σ c n) g2 a2 = if a2 = jnx σ then none else jR σ g2 a2 := id rfl
theorem zO_A (σ : jS) (c n : Nat) : jA (jnO σ c n) = jA σ := id rfl
theorem zO_G (σ : jS) (c n : Nat) : jG (jnO σ c n) = jG σ := id rfl
theorem zO_nx (σ : jS) (c n : Nat) : jnx (jnO σ c n) = jnx σ + 1 := id rfl
theorem zO_sl (σ : jS) (c n : Nat) : jsl (jnO σ c n) = jsl σ + n := id rfl
theorem zB_T (σ : jS) (c n : Nat) (a2 : Nat) : jT (jnA σ c n) a2 = if a2 = jnx σ then 20 + c else jT σ a2 := id rfl
theorem zB_N (σ : jS) (c n : Nat) (a2 : Nat) : jN (jnA σ c n) a2 = if a2 = jnx σ then n else jN σ a2 := id rfl
theorem zB_I (σ : jS) (c n : Nat) : jI (jnA σ c n) = jI σ := id rfl
theorem zB_R (σ : jS) (c n : Nat) : jR (jnA σ c n) = jR σ := id rfl
theorem zB_A (σ : jS) (c n : Nat) (a2 i2 : Nat) : jA (jnA σ c n) a2 i2 = if a2 = jnx σ then 0 else jA σ a2 i2 := id rfl
theorem zB_G (σ : jS) (c n : Nat) : jG (jnA σ c n) = jG σ := id rfl
theorem zB_nx (σ : jS) (c n : Nat) : jnx (jnA σ c n) = jnx σ + 1 := id rfl
theorem zB_sl (σ : jS) (c n : Nat) : jsl (jnA σ c n) = jsl σ + n := id rfl
theorem zH_T (σ : jS) (c n : Nat) (a2 : Nat) : jT (jnG σ c n) a2 = if a2 = jnx σ then 30 + c else jT σ a2 := id rfl
theorem zH_N (σ : jS) (c n : Nat) (a2 : Nat) : jN (jnG σ c n) a2 = if a2 = jnx σ then n else jN σ a2 := id rfl
theorem zH_I (σ : jS) (c n : Nat) : jI (jnG σ c n) = jI σ := id rfl
theorem zH_R (σ : jS) (c n : Nat) : jR (jnG σ c n) = jR σ := id rfl
theorem zH_A (σ : jS) (c n : Nat) : jA (jnG σ c n) = jA σ := id rfl
theorem zH_G (σ : jS) (c n : Nat) (a2 i2 : Nat) : jG (jnG σ c n) a2 i2 = if a2 = jnx σ then none else jG σ a2 i2 := id rfl
theorem zH_nx (σ : jS) (c n : Nat) : jnx (jnG σ c n) = jnx σ + 1 := id rfl
theorem zH_sl (σ : jS) (c n : Nat) : jsl (jnG σ c n) = jsl σ + n := id rfl
theorem zC_T (σ : jS) (p sp q dp x : Nat) : jT (jcp σ p sp q dp x) = jT σ := id rfl
theorem zC_N (σ : jS) (p sp q dp x : Nat) : jN (jcp σ p sp q dp x) = jN σ := id rfl
theorem zC_I (σ : jS) (p sp q dp x : Nat) : jI (jcp σ p sp q dp x) = jI σ := id rfl
theorem zC_R (σ : jS) (p sp q dp x : Nat) : jR (jcp σ p sp q dp x) = jR σ := id rfl
theorem zC_G (σ : jS) (p sp q dp x : Nat) : jG (jcp σ p sp q dp x) = jG σ := id rfl
theorem zC_nx (σ : jS) (p sp q dp x : Nat) : jnx (jcp σ p sp q dp x) = jnx σ := id rfl
theorem zC_sl (σ : jS) (p sp q dp x : Nat) : jsl (jcp σ p sp q dp x) = jsl σ := id rfl
theorem zC_A (σ : jS) (p sp q dp x : Nat) (a2 i2 : Nat) : jA (jcp σ p sp q dp x) a2 i2 = if a2 = q then va_cpy (jA σ p) (jA σ q) sp dp x i2 else jA σ a2 i2 := id rfl

theorem jsw_0 (x : Int32) : jsw 0 x = if x = 0 then 148 else if x = 1 then 171 else if x = 2 then 234 else if x = 3 then 257 else if x = 4 then 270 else if x = 5 then 283 else if x = 6 then 296 else if x = 7 then 345 else if x = 8 then 378 else if x = 9 then 411 else if x = 10 then 454 else if x = 11 then 487 else if x = 12 then 520 else if x = 13 then 553 else if x = 14 then 596 else if x = 15 then 639 else if x = 16 then 702 else if x = 17 then 745 else if x = 18 then 768 else if x = 19 then 801 else if x = 20 then 824 else if x = 21 then 857 else if x = 22 then 890 else if x = 23 then 903 else if x = 24 then 926 else 939 := by
  by_cases h0 : x = 0
  · subst h0; decide
  by_cases h1 : x = 1
  · subst h1; decide
  by_cases h2 : x = 2
  · subst h2; decide
  by_cases h3 : x = 3
  · subst h3; decide
  by_cases h4 : x = 4
  · subst h4; decide
  by_cases h5 : x = 5
  · subst h5; decide
  by_cases h6 : x = 6
  · subst h6; decide
  by_cases h7 : x = 7
  · subst h7; decide
  by_cases h8 : x = 8
  · subst h8; decide
  by_cases h9 : x = 9
  · subst h9; decide
  by_cases h10 : x = 10
  · subst h10; decide
  by_cases h11 : x = 11
  · subst h11; decide
  by_cases h12 : x = 12
  · subst h12; decide
  by_cases h13 : x = 13
  · subst h13; decide
  by_cases h14 : x = 14
  · subst h14; decide
  by_cases h15 : x = 15
  · subst h15; decide
  by_cases h16 : x = 16
  · subst h16; decide
  by_cases h17 : x = 17
  · subst h17; decide
  by_cases h18 : x = 18
  · subst h18; decide
  by_cases h19 : x = 19
  · subst h19; decide
  by_cases h20 : x = 20
  · subst h20; decide
  by_cases h21 : x = 21
  · subst h21; decide
  by_cases h22 : x = 22
  · subst h22; decide
  by_cases h23 : x = 23
  · subst h23; decide
  by_cases h24 : x = 24
  · subst h24; decide
  rw [if_neg h0, if_neg h1, if_neg h2, if_neg h3, if_neg h4, if_neg h5, if_neg h6, if_neg h7, if_neg h8, if_neg h9, if_neg h10, if_neg h11, if_neg h12, if_neg h13, if_neg h14, if_neg h15, if_neg h16, if_neg h17, if_neg h18, if_neg h19, if_neg h20, if_neg h21, if_neg h22, if_neg h23, if_neg h24]
  have g0 : x.toInt ≠ 0 := fun e => h0 (Int32.toInt_inj.mp e)
  have g1 : x.toInt ≠ 1 := fun e => h1 (Int32.toInt_inj.mp e)
  have g2 : x.toInt ≠ 2 := fun e => h2 (Int32.toInt_inj.mp e)
  have g3 : x.toInt ≠ 3 := fun e => h3 (Int32.toInt_inj.mp e)
  have g4 : x.toInt ≠ 4 := fun e => h4 (Int32.toInt_inj.mp e)
  have g5 : x.toInt ≠ 5 := fun e => h5 (Int32.toInt_inj.mp e)
  have g6 : x.toInt ≠ 6 := fun e => h6 (Int32.toInt_inj.mp e)
  have g7 : x.toInt ≠ 7 := fun e => h7 (Int32.toInt_inj.mp e)
  have g8 : x.toInt ≠ 8 := fun e => h8 (Int32.toInt_inj.mp e)
  have g9 : x.toInt ≠ 9 := fun e => h9 (Int32.toInt_inj.mp e)
  have g10 : x.toInt ≠ 10 := fun e => h10 (Int32.toInt_inj.mp e)
  have g11 : x.toInt ≠ 11 := fun e => h11 (Int32.toInt_inj.mp e)
  have g12 : x.toInt ≠ 12 := fun e => h12 (Int32.toInt_inj.mp e)
  have g13 : x.toInt ≠ 13 := fun e => h13 (Int32.toInt_inj.mp e)
  have g14 : x.toInt ≠ 14 := fun e => h14 (Int32.toInt_inj.mp e)
  have g15 : x.toInt ≠ 15 := fun e => h15 (Int32.toInt_inj.mp e)
  have g16 : x.toInt ≠ 16 := fun e => h16 (Int32.toInt_inj.mp e)
  have g17 : x.toInt ≠ 17 := fun e => h17 (Int32.toInt_inj.mp e)
  have g18 : x.toInt ≠ 18 := fun e => h18 (Int32.toInt_inj.mp e)
  have g19 : x.toInt ≠ 19 := fun e => h19 (Int32.toInt_inj.mp e)
  have g20 : x.toInt ≠ 20 := fun e => h20 (Int32.toInt_inj.mp e)
  have g21 : x.toInt ≠ 21 := fun e => h21 (Int32.toInt_inj.mp e)
  have g22 : x.toInt ≠ 22 := fun e => h22 (Int32.toInt_inj.mp e)
  have g23 : x.toInt ≠ 23 := fun e => h23 (Int32.toInt_inj.mp e)
  have g24 : x.toInt ≠ 24 := fun e => h24 (Int32.toInt_inj.mp e)
  show (if x.toInt < 0 ∨ 24 < x.toInt then 939 else _) = 939
  rw [if_pos (by omega)]
theorem jsw_1 (x : Int32) : jsw 1 x = if x = 14 then 117 else if x = 15 then 98 else if x = 16 then 79 else if x = 17 then 76 else if x = 18 then 154 else 189 := by
  by_cases h0 : x = 14
  · subst h0; decide
  by_cases h1 : x = 15
  · subst h1; decide
  by_cases h2 : x = 16
  · subst h2; decide
  by_cases h3 : x = 17
  · subst h3; decide
  by_cases h4 : x = 18
  · subst h4; decide
  rw [if_neg h0, if_neg h1, if_neg h2, if_neg h3, if_neg h4]
  have g0 : x.toInt ≠ 14 := fun e => h0 (Int32.toInt_inj.mp e)
  have g1 : x.toInt ≠ 15 := fun e => h1 (Int32.toInt_inj.mp e)
  have g2 : x.toInt ≠ 16 := fun e => h2 (Int32.toInt_inj.mp e)
  have g3 : x.toInt ≠ 17 := fun e => h3 (Int32.toInt_inj.mp e)
  have g4 : x.toInt ≠ 18 := fun e => h4 (Int32.toInt_inj.mp e)
  show (if x.toInt < 14 ∨ 18 < x.toInt then 189 else _) = 189
  rw [if_pos (by omega)]
theorem jsw_2 (x : Int32) : jsw 2 x = if x = 0 then 72 else if x = 1 then 74 else if x = 2 then 76 else if x = 3 then 80 else if x = 4 then 84 else if x = 5 then 88 else if x = 6 then 92 else if x = 7 then 96 else if x = 8 then 100 else if x = 9 then 104 else if x = 10 then 108 else if x = 11 then 112 else if x = 12 then 115 else if x = 13 then 119 else 123 := by
  by_cases h0 : x = 0
  · subst h0; decide
  by_cases h1 : x = 1
  · subst h1; decide
  by_cases h2 : x = 2
  · subst h2; decide
  by_cases h3 : x = 3
  · subst h3; decide
  by_cases h4 : x = 4
  · subst h4; decide
  by_cases h5 : x = 5
  · subst h5; decide
  by_cases h6 : x = 6
  · subst h6; decide
  by_cases h7 : x = 7
  · subst h7; decide
  by_cases h8 : x = 8
  · subst h8; decide
  by_cases h9 : x = 9
  · subst h9; decide
  by_cases h10 : x = 10
  · subst h10; decide
  by_cases h11 : x = 11
  · subst h11; decide
  by_cases h12 : x = 12
  · subst h12; decide
  by_cases h13 : x = 13
  · subst h13; decide
  rw [if_neg h0, if_neg h1, if_neg h2, if_neg h3, if_neg h4, if_neg h5, if_neg h6, if_neg h7, if_neg h8, if_neg h9, if_neg h10, if_neg h11, if_neg h12, if_neg h13]
  have g0 : x.toInt ≠ 0 := fun e => h0 (Int32.toInt_inj.mp e)
  have g1 : x.toInt ≠ 1 := fun e => h1 (Int32.toInt_inj.mp e)
  have g2 : x.toInt ≠ 2 := fun e => h2 (Int32.toInt_inj.mp e)
  have g3 : x.toInt ≠ 3 := fun e => h3 (Int32.toInt_inj.mp e)
  have g4 : x.toInt ≠ 4 := fun e => h4 (Int32.toInt_inj.mp e)
  have g5 : x.toInt ≠ 5 := fun e => h5 (Int32.toInt_inj.mp e)
  have g6 : x.toInt ≠ 6 := fun e => h6 (Int32.toInt_inj.mp e)
  have g7 : x.toInt ≠ 7 := fun e => h7 (Int32.toInt_inj.mp e)
  have g8 : x.toInt ≠ 8 := fun e => h8 (Int32.toInt_inj.mp e)
  have g9 : x.toInt ≠ 9 := fun e => h9 (Int32.toInt_inj.mp e)
  have g10 : x.toInt ≠ 10 := fun e => h10 (Int32.toInt_inj.mp e)
  have g11 : x.toInt ≠ 11 := fun e => h11 (Int32.toInt_inj.mp e)
  have g12 : x.toInt ≠ 12 := fun e => h12 (Int32.toInt_inj.mp e)
  have g13 : x.toInt ≠ 13 := fun e => h13 (Int32.toInt_inj.mp e)
  show (if x.toInt < 0 ∨ 13 < x.toInt then 123 else _) = 123
  rw [if_pos (by omega)]
theorem jsw_3 (x : Int32) : jsw 3 x = if x = 0 then 68 else if x = 1 then 76 else if x = 2 then 81 else if x = 3 then 86 else if x = 4 then 91 else if x = 5 then 99 else if x = 6 then 107 else if x = 7 then 112 else if x = 8 then 117 else if x = 9 then 122 else 130 := by
  by_cases h0 : x = 0
  · subst h0; decide
  by_cases h1 : x = 1
  · subst h1; decide
  by_cases h2 : x = 2
  · subst h2; decide
  by_cases h3 : x = 3
  · subst h3; decide
  by_cases h4 : x = 4
  · subst h4; decide
  by_cases h5 : x = 5
  · subst h5; decide
  by_cases h6 : x = 6
  · subst h6; decide
  by_cases h7 : x = 7
  · subst h7; decide
  by_cases h8 : x = 8
  · subst h8; decide
  by_cases h9 : x = 9
  · subst h9; decide
  rw [if_neg h0, if_neg h1, if_neg h2, if_neg h3, if_neg h4, if_neg h5, if_neg h6, if_neg h7, if_neg h8, if_neg h9]
  have g0 : x.toInt ≠ 0 := fun e => h0 (Int32.toInt_inj.mp e)
  have g1 : x.toInt ≠ 1 := fun e => h1 (Int32.toInt_inj.mp e)
  have g2 : x.toInt ≠ 2 := fun e => h2 (Int32.toInt_inj.mp e)
  have g3 : x.toInt ≠ 3 := fun e => h3 (Int32.toInt_inj.mp e)
  have g4 : x.toInt ≠ 4 := fun e => h4 (Int32.toInt_inj.mp e)
  have g5 : x.toInt ≠ 5 := fun e => h5 (Int32.toInt_inj.mp e)
  have g6 : x.toInt ≠ 6 := fun e => h6 (Int32.toInt_inj.mp e)
  have g7 : x.toInt ≠ 7 := fun e => h7 (Int32.toInt_inj.mp e)
  have g8 : x.toInt ≠ 8 := fun e => h8 (Int32.toInt_inj.mp e)
  have g9 : x.toInt ≠ 9 := fun e => h9 (Int32.toInt_inj.mp e)
  show (if x.toInt < 0 ∨ 9 < x.toInt then 130 else _) = 130
  rw [if_pos (by omega)]
theorem jsw_4 (x : Int32) : jsw 4 x = if x = 0 then 40 else if x = 1 then 45 else if x = 2 then 50 else if x = 3 then 55 else if x = 4 then 63 else if x = 5 then 68 else 76 := by
  by_cases h0 : x = 0
  · subst h0; decide
  by_cases h1 : x = 1
  · subst h1; decide
  by_cases h2 : x = 2
  · subst h2; decide
  by_cases h3 : x = 3
  · subst h3; decide
  by_cases h4 : x = 4
  · subst h4; decide
  by_cases h5 : x = 5
  · subst h5; decide
  rw [if_neg h0, if_neg h1, if_neg h2, if_neg h3, if_neg h4, if_neg h5]
  have g0 : x.toInt ≠ 0 := fun e => h0 (Int32.toInt_inj.mp e)
  have g1 : x.toInt ≠ 1 := fun e => h1 (Int32.toInt_inj.mp e)
  have g2 : x.toInt ≠ 2 := fun e => h2 (Int32.toInt_inj.mp e)
  have g3 : x.toInt ≠ 3 := fun e => h3 (Int32.toInt_inj.mp e)
  have g4 : x.toInt ≠ 4 := fun e => h4 (Int32.toInt_inj.mp e)
  have g5 : x.toInt ≠ 5 := fun e => h5 (Int32.toInt_inj.mp e)
  show (if x.toInt < 0 ∨ 5 < x.toInt then 76 else _) = 76
  rw [if_pos (by omega)]
theorem jsw_5 (x : Int32) : jsw 5 x = if x = 0 then 124 else if x = 1 then 130 else if x = 2 then 137 else if x = 3 then 147 else if x = 4 then 157 else if x = 5 then 167 else if x = 6 then 177 else if x = 7 then 187 else if x = 8 then 197 else if x = 9 then 206 else if x = 10 then 215 else if x = 11 then 224 else if x = 12 then 232 else if x = 13 then 241 else if x = 14 then 250 else if x = 15 then 272 else if x = 16 then 285 else if x = 17 then 313 else if x = 18 then 298 else 313 := by
  by_cases h0 : x = 0
  · subst h0; decide
  by_cases h1 : x = 1
  · subst h1; decide
  by_cases h2 : x = 2
  · subst h2; decide
  by_cases h3 : x = 3
  · subst h3; decide
  by_cases h4 : x = 4
  · subst h4; decide
  by_cases h5 : x = 5
  · subst h5; decide
  by_cases h6 : x = 6
  · subst h6; decide
  by_cases h7 : x = 7
  · subst h7; decide
  by_cases h8 : x = 8
  · subst h8; decide
  by_cases h9 : x = 9
  · subst h9; decide
  by_cases h10 : x = 10
  · subst h10; decide
  by_cases h11 : x = 11
  · subst h11; decide
  by_cases h12 : x = 12
  · subst h12; decide
  by_cases h13 : x = 13
  · subst h13; decide
  by_cases h14 : x = 14
  · subst h14; decide
  by_cases h15 : x = 15
  · subst h15; decide
  by_cases h16 : x = 16
  · subst h16; decide
  by_cases h17 : x = 17
  · subst h17; decide
  by_cases h18 : x = 18
  · subst h18; decide
  rw [if_neg h0, if_neg h1, if_neg h2, if_neg h3, if_neg h4, if_neg h5, if_neg h6, if_neg h7, if_neg h8, if_neg h9, if_neg h10, if_neg h11, if_neg h12, if_neg h13, if_neg h14, if_neg h15, if_neg h16, if_neg h17, if_neg h18]
  have g0 : x.toInt ≠ 0 := fun e => h0 (Int32.toInt_inj.mp e)
  have g1 : x.toInt ≠ 1 := fun e => h1 (Int32.toInt_inj.mp e)
  have g2 : x.toInt ≠ 2 := fun e => h2 (Int32.toInt_inj.mp e)
  have g3 : x.toInt ≠ 3 := fun e => h3 (Int32.toInt_inj.mp e)
  have g4 : x.toInt ≠ 4 := fun e => h4 (Int32.toInt_inj.mp e)
  have g5 : x.toInt ≠ 5 := fun e => h5 (Int32.toInt_inj.mp e)
  have g6 : x.toInt ≠ 6 := fun e => h6 (Int32.toInt_inj.mp e)
  have g7 : x.toInt ≠ 7 := fun e => h7 (Int32.toInt_inj.mp e)
  have g8 : x.toInt ≠ 8 := fun e => h8 (Int32.toInt_inj.mp e)
  have g9 : x.toInt ≠ 9 := fun e => h9 (Int32.toInt_inj.mp e)
  have g10 : x.toInt ≠ 10 := fun e => h10 (Int32.toInt_inj.mp e)
  have g11 : x.toInt ≠ 11 := fun e => h11 (Int32.toInt_inj.mp e)
  have g12 : x.toInt ≠ 12 := fun e => h12 (Int32.toInt_inj.mp e)
  have g13 : x.toInt ≠ 13 := fun e => h13 (Int32.toInt_inj.mp e)
  have g14 : x.toInt ≠ 14 := fun e => h14 (Int32.toInt_inj.mp e)
  have g15 : x.toInt ≠ 15 := fun e => h15 (Int32.toInt_inj.mp e)
  have g16 : x.toInt ≠ 16 := fun e => h16 (Int32.toInt_inj.mp e)
  have g17 : x.toInt ≠ 17 := fun e => h17 (Int32.toInt_inj.mp e)
  have g18 : x.toInt ≠ 18 := fun e => h18 (Int32.toInt_inj.mp e)
  show (if x.toInt < 0 ∨ 18 < x.toInt then 313 else _) = 313
  rw [if_pos (by omega)]
theorem jsw_6 (x : Int32) : jsw 6 x = if x = 0 then 64 else if x = 1 then 78 else if x = 2 then 84 else if x = 3 then 91 else if x = 4 then 98 else if x = 5 then 107 else if x = 6 then 118 else if x = 7 then 125 else if x = 8 then 132 else if x = 9 then 139 else 154 := by
  by_cases h0 : x = 0
  · subst h0; decide
  by_cases h1 : x = 1
  · subst h1; decide
  by_cases h2 : x = 2
  · subst h2; decide
  by_cases h3 : x = 3
  · subst h3; decide
  by_cases h4 : x = 4
  · subst h4; decide
  by_cases h5 : x = 5
  · subst h5; decide
  by_cases h6 : x = 6
  · subst h6; decide
  by_cases h7 : x = 7
  · subst h7; decide
  by_cases h8 : x = 8
  · subst h8; decide
  by_cases h9 : x = 9
  · subst h9; decide
  rw [if_neg h0, if_neg h1, if_neg h2, if_neg h3, if_neg h4, if_neg h5, if_neg h6, if_neg h7, if_neg h8, if_neg h9]
  have g0 : x.toInt ≠ 0 := fun e => h0 (Int32.toInt_inj.mp e)
  have g1 : x.toInt ≠ 1 := fun e => h1 (Int32.toInt_inj.mp e)
  have g2 : x.toInt ≠ 2 := fun e => h2 (Int32.toInt_inj.mp e)
  have g3 : x.toInt ≠ 3 := fun e => h3 (Int32.toInt_inj.mp e)
  have g4 : x.toInt ≠ 4 := fun e => h4 (Int32.toInt_inj.mp e)
  have g5 : x.toInt ≠ 5 := fun e => h5 (Int32.toInt_inj.mp e)
  have g6 : x.toInt ≠ 6 := fun e => h6 (Int32.toInt_inj.mp e)
  have g7 : x.toInt ≠ 7 := fun e => h7 (Int32.toInt_inj.mp e)
  have g8 : x.toInt ≠ 8 := fun e => h8 (Int32.toInt_inj.mp e)
  have g9 : x.toInt ≠ 9 := fun e => h9 (Int32.toInt_inj.mp e)
  show (if x.toInt < 0 ∨ 9 < x.toInt then 154 else _) = 154
  rw [if_pos (by omega)]
theorem jsw_7 (x : Int32) : jsw 7 x = if x = 0 then 88 else if x = 1 then 88 else if x = 2 then 97 else if x = 3 then 97 else if x = 4 then 97 else if x = 5 then 97 else if x = 6 then 97 else if x = 7 then 90 else if x = 8 then 95 else if x = 9 then 95 else if x = 10 then 95 else if x = 11 then 88 else if x = 12 then 88 else if x = 13 then 88 else if x = 14 then 93 else if x = 15 then 93 else if x = 16 then 93 else if x = 17 then 95 else 97 := by
  by_cases h0 : x = 0
  · subst h0; decide
  by_cases h1 : x = 1
  · subst h1; decide
  by_cases h2 : x = 2
  · subst h2; decide
  by_cases h3 : x = 3
  · subst h3; decide
  by_cases h4 : x = 4
  · subst h4; decide
  by_cases h5 : x = 5
  · subst h5; decide
  by_cases h6 : x = 6
  · subst h6; decide
  by_cases h7 : x = 7
  · subst h7; decide
  by_cases h8 : x = 8
  · subst h8; decide
  by_cases h9 : x = 9
  · subst h9; decide
  by_cases h10 : x = 10
  · subst h10; decide
  by_cases h11 : x = 11
  · subst h11; decide
  by_cases h12 : x = 12
  · subst h12; decide
  by_cases h13 : x = 13
  · subst h13; decide
  by_cases h14 : x = 14
  · subst h14; decide
  by_cases h15 : x = 15
  · subst h15; decide
  by_cases h16 : x = 16
  · subst h16; decide
  by_cases h17 : x = 17
  · subst h17; decide
  rw [if_neg h0, if_neg h1, if_neg h2, if_neg h3, if_neg h4, if_neg h5, if_neg h6, if_neg h7, if_neg h8, if_neg h9, if_neg h10, if_neg h11, if_neg h12, if_neg h13, if_neg h14, if_neg h15, if_neg h16, if_neg h17]
  have g0 : x.toInt ≠ 0 := fun e => h0 (Int32.toInt_inj.mp e)
  have g1 : x.toInt ≠ 1 := fun e => h1 (Int32.toInt_inj.mp e)
  have g2 : x.toInt ≠ 2 := fun e => h2 (Int32.toInt_inj.mp e)
  have g3 : x.toInt ≠ 3 := fun e => h3 (Int32.toInt_inj.mp e)
  have g4 : x.toInt ≠ 4 := fun e => h4 (Int32.toInt_inj.mp e)
  have g5 : x.toInt ≠ 5 := fun e => h5 (Int32.toInt_inj.mp e)
  have g6 : x.toInt ≠ 6 := fun e => h6 (Int32.toInt_inj.mp e)
  have g7 : x.toInt ≠ 7 := fun e => h7 (Int32.toInt_inj.mp e)
  have g8 : x.toInt ≠ 8 := fun e => h8 (Int32.toInt_inj.mp e)
  have g9 : x.toInt ≠ 9 := fun e => h9 (Int32.toInt_inj.mp e)
  have g10 : x.toInt ≠ 10 := fun e => h10 (Int32.toInt_inj.mp e)
  have g11 : x.toInt ≠ 11 := fun e => h11 (Int32.toInt_inj.mp e)
  have g12 : x.toInt ≠ 12 := fun e => h12 (Int32.toInt_inj.mp e)
  have g13 : x.toInt ≠ 13 := fun e => h13 (Int32.toInt_inj.mp e)
  have g14 : x.toInt ≠ 14 := fun e => h14 (Int32.toInt_inj.mp e)
  have g15 : x.toInt ≠ 15 := fun e => h15 (Int32.toInt_inj.mp e)
  have g16 : x.toInt ≠ 16 := fun e => h16 (Int32.toInt_inj.mp e)
  have g17 : x.toInt ≠ 17 := fun e => h17 (Int32.toInt_inj.mp e)
  show (if x.toInt < 0 ∨ 17 < x.toInt then 97 else _) = 97
  rw [if_pos (by omega)]
theorem jsw_8 (x : Int32) : jsw 8 x = if x = 0 then 40 else if x = 1 then 45 else if x = 2 then 81 else if x = 3 then 86 else if x = 4 then 91 else if x = 5 then 96 else 101 := by
  by_cases h0 : x = 0
  · subst h0; decide
  by_cases h1 : x = 1
  · subst h1; decide
  by_cases h2 : x = 2
  · subst h2; decide
  by_cases h3 : x = 3
  · subst h3; decide
  by_cases h4 : x = 4
  · subst h4; decide
  by_cases h5 : x = 5
  · subst h5; decide
  rw [if_neg h0, if_neg h1, if_neg h2, if_neg h3, if_neg h4, if_neg h5]
  have g0 : x.toInt ≠ 0 := fun e => h0 (Int32.toInt_inj.mp e)
  have g1 : x.toInt ≠ 1 := fun e => h1 (Int32.toInt_inj.mp e)
  have g2 : x.toInt ≠ 2 := fun e => h2 (Int32.toInt_inj.mp e)
  have g3 : x.toInt ≠ 3 := fun e => h3 (Int32.toInt_inj.mp e)
  have g4 : x.toInt ≠ 4 := fun e => h4 (Int32.toInt_inj.mp e)
  have g5 : x.toInt ≠ 5 := fun e => h5 (Int32.toInt_inj.mp e)
  show (if x.toInt < 0 ∨ 5 < x.toInt then 101 else _) = 101
  rw [if_pos (by omega)]
theorem jlk_0 (x : Int32) : jlk [(38, 60), (43, 52), (45, 56), (94, 68), (124, 64)] 72 (Int32.toInt x) = if x = 38 then 60 else if x = 43 then 52 else if x = 45 then 56 else if x = 94 then 68 else if x = 124 then 64 else 72 := by
  by_cases h0 : x = 38
  · subst h0; decide
  by_cases h1 : x = 43
  · subst h1; decide
  by_cases h2 : x = 45
  · subst h2; decide
  by_cases h3 : x = 94
  · subst h3; decide
  by_cases h4 : x = 124
  · subst h4; decide
  rw [if_neg h0, if_neg h1, if_neg h2, if_neg h3, if_neg h4]
  have g0 : ¬ (38 : Int) = x.toInt := fun e => h0 (Int32.toInt_inj.mp e.symm)
  have g1 : ¬ (43 : Int) = x.toInt := fun e => h1 (Int32.toInt_inj.mp e.symm)
  have g2 : ¬ (45 : Int) = x.toInt := fun e => h2 (Int32.toInt_inj.mp e.symm)
  have g3 : ¬ (94 : Int) = x.toInt := fun e => h3 (Int32.toInt_inj.mp e.symm)
  have g4 : ¬ (124 : Int) = x.toInt := fun e => h4 (Int32.toInt_inj.mp e.symm)
  simp only [jlk, if_neg g0, if_neg g1, if_neg g2, if_neg g3, if_neg g4]

