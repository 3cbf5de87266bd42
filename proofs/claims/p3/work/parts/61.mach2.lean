/-! the machine: runs, class and reference -/
def exO (W : Nat) (w o : Nat → Int32) : Nat → Int32 := exN W (o 0).toNatClampNeg (o 1).toNatClampNeg (o 2).toNatClampNeg (o 3).toNatClampNeg w
def exL (W : Nat) (os : List (Nat → Int32)) (w : Nat → Int32) : Nat → Int32 := os.foldl (exO W) w
def PWF (o : Nat → Int32) : Prop := ∃ k x y z, w8 x y z k ∧ o 0 = nI k ∧ o 1 = nI x ∧ o 2 = nI y ∧ o 3 = nI z
theorem exO_eq {W : Nat} {w o : Nat → Int32} {k x y z : Nat} (h8 : w8 x y z k) (e0 : o 0 = nI k) (e1 : o 1 = nI x) (e2 : o 2 = nI y) (e3 : o 3 = nI z) : exO W w o = exN W k x y z w := by
  obtain ⟨a, b, c, d, _⟩ := h8
  unfold exO
  rw [e0, e1, e2, e3, nI_clamp (by omega), nI_clamp (by omega), nI_clamp (by omega), nI_clamp (by omega)]
theorem exN_cong {W k x y z : Nat} (h8 : w8 x y z k) {w v : Nat → Int32} (e : ∀ i, i < 8 → w i = v i) : ∀ i, i < 8 → exN W k x y z w i = exN W k x y z v i := by
  obtain ⟨hk, hx, hz, hy, hy4⟩ := h8
  intro i hi
  unfold exN up6
  by_cases h17 : k = 17
  · rw [if_pos h17, if_pos h17]; exact e i hi
  rw [if_neg h17, if_neg h17]
  by_cases h16 : k = 16
  · rw [if_pos h16, if_pos h16, e x (by omega), e i hi]
  rw [if_neg h16, if_neg h16]
  by_cases h15 : k = 15
  · rw [if_pos h15, if_pos h15, e (4 + y) (by have := hy4 (by omega); omega), e i hi]
  rw [if_neg h15, if_neg h15]
  by_cases h14 : k = 14
  · rw [if_pos h14, if_pos h14, e x (by omega), e z (by omega), e y hy, e i hi]
  rw [if_neg h14, if_neg h14]
  by_cases h18 : k = 18
  · rw [if_pos h18, if_pos h18, e x (by omega), e y hy, e i hi]
  rw [if_neg h18, if_neg h18, e x (by omega), e (y % 4) (by omega), e i hi]
theorem exO_cong {W : Nat} {o : Nat → Int32} (hp : PWF o) {w v : Nat → Int32} (e : ∀ i, i < 8 → w i = v i) : ∀ i, i < 8 → exO W w o i = exO W v o i := by
  obtain ⟨k, x, y, z, h8, e0, e1, e2, e3⟩ := hp
  intro i hi
  rw [exO_eq h8 e0 e1 e2 e3, exO_eq h8 e0 e1 e2 e3]
  exact exN_cong h8 e i hi
theorem exL_cong {W : Nat} : ∀ (os : List (Nat → Int32)) (w v : Nat → Int32), (∀ o, o ∈ os → PWF o) → (∀ i, i < 8 → w i = v i) → ∀ i, i < 8 → exL W os w i = exL W os v i := by
  intro os
  induction os with
  | nil => intro w v _ e; exact e
  | cons o os ih =>
    intro w v hp e
    exact ih (exO W w o) (exO W v o) (fun p hpp => hp p (List.mem_cons_of_mem _ hpp)) (exO_cong (hp o List.mem_cons_self) e)
theorem WD.exO {W : Nat} (hW : W = 1 ∨ W = 2 ∨ W = 3) {w o : Nat → Int32} (h : WD W w) (hp : PWF o) : WD W (exO W w o) := by
  obtain ⟨k, x, y, z, h8, e0, e1, e2, e3⟩ := hp
  rw [exO_eq h8 e0 e1 e2 e3]
  exact h.ex hW h8
theorem WD.exL {W : Nat} (hW : W = 1 ∨ W = 2 ∨ W = 3) : ∀ (os : List (Nat → Int32)) (w : Nat → Int32), WD W w → (∀ o, o ∈ os → PWF o) → WD W (exL W os w) := by
  intro os
  induction os with
  | nil => intro w h _; exact h
  | cons o os ih =>
    intro w h hp
    exact ih _ (h.exO hW (hp o List.mem_cons_self)) (fun p hpp => hp p (List.mem_cons_of_mem _ hpp))
theorem k5_0 {d : Nat} {σ : jS} {x0 : Int32} {x1 : Int32} : jx d 5 0 [some (.int x0), some (.int x1)] [] σ = if x1 < x0 then jx d 5 9 [some (.int x0), some (.int x1)] [] σ else jx d 5 5 [some (.int x0), some (.int x1)] [] σ := (jx_iload rfl rfl).trans ((jx_iload rfl rfl).trans (jx_icgt rfl))
theorem k5_5 {d : Nat} {σ : jS} {x0 : Int32} {l1 : Option Value} : jx d 5 5 [some (.int x0), l1] [] σ = some (some (.int x0), σ) := (jx_iload rfl rfl).trans ((jx_goto rfl).trans (jx_iret rfl))
theorem k5_9 {d : Nat} {σ : jS} {l0 : Option Value} {x1 : Int32} : jx d 5 9 [l0, some (.int x1)] [] σ = some (some (.int x1), σ) := (jx_iload rfl rfl).trans (jx_iret rfl)
theorem k55_0 {d : Nat} {σ : jS} {j0 : Int64} {j2 : Int64} : jx d 55 0 [some (.long j0), none, some (.long j2), none] [] σ = if 0 < (lg_cmp j0 j2) then jx d 55 10 [some (.long j0), none, some (.long j2), none] [] σ else jx d 55 6 [some (.long j0), none, some (.long j2), none] [] σ := (jx_lload rfl rfl).trans ((jx_lload rfl rfl).trans ((jx_lcmp rfl).trans (jx_ifgt rfl)))
theorem k55_6 {d : Nat} {σ : jS} {j0 : Int64} {l2 : Option Value} : jx d 55 6 [some (.long j0), none, l2, none] [] σ = some (some (.long j0), σ) := (jx_lload rfl rfl).trans ((jx_goto rfl).trans (jx_lret rfl))
theorem k55_10 {d : Nat} {σ : jS} {l0 : Option Value} {j2 : Int64} : jx d 55 10 [l0, none, some (.long j2), none] [] σ = some (some (.long j2), σ) := (jx_lload rfl rfl).trans (jx_lret rfl)

section MA2
variable {d : Nat} {W : Nat}
theorem c5 {σ : jS} (a b : Int32) : jx d 5 0 [some (.int a), some (.int b)] [] σ = some (some (.int (if b < a then b else a)), σ) := by
  rw [k5_0]
  by_cases h : b < a
  · rw [if_pos h, if_pos h, k5_9]
  · rw [if_neg h, if_neg h, k5_5]
theorem c157 {σ : jS} (hS : SH σ) (hW : W = 1 ∨ W = 2 ∨ W = 3) (hw : jI σ 640 47 = nI W) {k x y z : Nat} (h8 : w8 x y z k) (hD : WD W (jA σ 49)) :
    ∃ σ', jx d 157 0 [some (.ref 47), some (.int (nI k)), some (.int (nI x)), some (.int (nI y)), some (.int (nI z)), none, none, none, none] [] σ = some (none, σ') ∧ FR [49] σ σ' ∧ ∀ i, jA σ' 49 i = exN W k x y z (jA σ 49) i := by
  obtain ⟨hk, hx, hz, hy, hy4⟩ := h8
  have rn : jR σ 643 47 ≠ none := by rw [sR_643_47 hS]; exact fun z => nomatch z
  have rg : (jR σ 643 47).getD 0 = 49 := by rw [sR_643_47 hS]; rfl
  have gx : jin 8 (nI x) := jin_n (by omega) (by decide)
  have gy : jin 8 (nI (y % 4)) := jin_n (by omega) (by decide)
  have gyy : jin 8 (nI y) := jin_n (by omega) (by decide)
  have gz : jin 8 (nI z) := jin_n (by omega) (by decide)
  have qx : (nI x).toNatClampNeg = x := nI_clamp (by omega)
  have qy : (nI (y % 4)).toNatClampNeg = y % 4 := nI_clamp (by omega)
  have qyy : (nI y).toNatClampNeg = y := nI_clamp (by omega)
  have qz : (nI z).toNatClampNeg = z := nI_clamp (by omega)
  have t49 := sT_49 hS
  have n49 := sN_49 hS
  have t47 := sT_47 hS
  have mk : ((1 : Int32) <<< (nI W &&& 31)) - 1 = mkW W := rfl
  have up : ∀ (υ : jS) (j : Nat) (v : Int32) (i : Nat), jA (jsA υ 49 j v) 49 i = up6 (jA υ 49) j v i := by
    intro υ j v i
    rw [zA_A]
    unfold up6
    by_cases h : i = j
    · rw [if_pos ⟨rfl, h⟩, if_pos h]
    · rw [if_neg (fun w => h w.2), if_neg h]
  have start : jx d 157 0 [some (.ref 47), some (.int (nI k)), some (.int (nI x)), some (.int (nI y)), some (.int (nI z)), none, none, none, none] [] σ = jx d 157 (jsw 5 (nI k)) [some (.ref 47), some (.int (nI k)), some (.int (nI x)), some (.int (nI y)), some (.int (nI z)), some (.int (mkW W)), some (.int (jA σ 49 x)), some (.int (jA σ 49 (y % 4))), some (.int (jA σ 49 x))] [] σ := by
    rw [k157_0 t47 rn (by rw [rg]; exact Or.inl t49) (by rw [rg, n49]; exact gx) (by rw [rg, n49, and3 y hy]; exact gy), rg, hw, mk, qx, and3 y hy, qy]
  have fin : ∀ (υ : jS) (l1 l3 l4 l6 l7 : Option Value) (v : Int32), SH υ → jx d 157 319 [some (.ref 47), l1, some (.int (nI x)), l3, l4, some (.int (mkW W)), l6, l7, some (.int v)] [] υ = some (none, jsA υ 49 x (v &&& mkW W)) := by
    intro υ l1 l3 l4 l6 l7 v hSu
    have rg' : (jR υ 643 47).getD 0 = 49 := by rw [sR_643_47 hSu]; rfl
    rw [k157_319 (sT_47 hSu) (by rw [sR_643_47 hSu]; exact fun z => nomatch z) (by rw [rg']; exact sT_49 hSu) (by rw [rg', sN_49 hSu]; exact gx), rg', qx]
  have idm : ∀ i, i < 8 → jA σ 49 i &&& mkW W = jA σ 49 i := fun i hi => by
    obtain ⟨u, hu, eu⟩ := hD i hi
    rw [eu]; exact mask_id hW u hu
  have plain : ∀ pc v, jsw 5 (nI k) = pc → v = wkd k (jA σ 49 x) (jA σ 49 (y % 4)) (nI y) → k < 14 → (jx d 157 pc [some (.ref 47), some (.int (nI k)), some (.int (nI x)), some (.int (nI y)), some (.int (nI z)), some (.int (mkW W)), some (.int (jA σ 49 x)), some (.int (jA σ 49 (y % 4))), some (.int (jA σ 49 x))] [] σ = jx d 157 319 [some (.ref 47), some (.int (nI k)), some (.int (nI x)), some (.int (nI y)), some (.int (nI z)), some (.int (mkW W)), some (.int (jA σ 49 x)), some (.int (jA σ 49 (y % 4))), some (.int v)] [] σ) →
      ∃ σ', jx d 157 0 [some (.ref 47), some (.int (nI k)), some (.int (nI x)), some (.int (nI y)), some (.int (nI z)), none, none, none, none] [] σ = some (none, σ') ∧ FR [49] σ σ' ∧ ∀ i, jA σ' 49 i = exN W k x y z (jA σ 49) i := by
    intro pc v hs hv hk14 e
    refine ⟨jsA σ 49 x (v &&& mkW W), ?_, (FR.refl _ σ).A (by decide), fun i => ?_⟩
    · rw [start, hs, e, fin σ _ _ _ _ _ _ hS]
    · rw [up, hv]
      unfold exN
      rw [if_neg (by omega), if_neg (by omega), if_neg (by omega), if_neg (by omega), if_neg (by omega)]
  rcases k19 hk with h | h | h | h | h | h | h | h | h | h | h | h | h | h | h | h | h | h | h <;> subst h
  · exact plain 124 _ (by decide) rfl (by decide) (by rw [k157_124, if_neg (by decide)]; rfl)
  · exact plain 130 _ (by decide) rfl (by decide) (by rw [k157_130, if_neg (by decide)]; rfl)
  · exact plain 137 _ (by decide) rfl (by decide) (by rw [k157_137, if_neg (by decide)]; rfl)
  · exact plain 147 _ (by decide) rfl (by decide) (by rw [k157_147, if_neg (by decide)]; rfl)
  · exact plain 157 _ (by decide) rfl (by decide) (by rw [k157_157, if_neg (by decide)]; rfl)
  · exact plain 167 _ (by decide) rfl (by decide) (by rw [k157_167, if_neg (by decide)]; rfl)
  · exact plain 177 _ (by decide) rfl (by decide) (by rw [k157_177, if_neg (by decide)]; rfl)
  · exact plain 187 _ (by decide) rfl (by decide) (by rw [k157_187, if_neg (by decide)]; rfl)
  · exact plain 197 _ (by decide) rfl (by decide) (by rw [k157_197, if_neg (by decide)]; rfl)
  · exact plain 206 _ (by decide) rfl (by decide) (by rw [k157_206, if_neg (by decide)]; rfl)
  · exact plain 215 _ (by decide) rfl (by decide) (by rw [k157_215, if_neg (by decide)]; rfl)
  · exact plain 224 _ (by decide) rfl (by decide) (by rw [k157_224, if_neg (by decide)]; rfl)
  · exact plain 232 _ (by decide) rfl (by decide) (by rw [k157_232, if_neg (by decide)]; rfl)
  · exact plain 241 _ (by decide) rfl (by decide) (by rw [k157_241, if_neg (by decide)]; rfl)
  · have y4 : y % 4 = y := Nat.mod_eq_of_lt (hy4 (by decide))
    refine ⟨jsA σ 49 x ((if jA σ 49 x = 0 then jA σ 49 z else jA σ 49 y) &&& mkW W), ?_, (FR.refl _ σ).A (by decide), fun i => ?_⟩
    · rw [start, show jsw 5 (nI 14) = 250 by decide, k157_250]
      by_cases h0 : jA σ 49 x = 0
      · rw [if_pos h0, if_pos h0, k157_260 t47 rn (by rw [rg]; exact Or.inl t49) (by rw [rg, n49]; exact gz), if_neg (by decide), rg, qz, fin σ _ _ _ _ _ _ hS]
      · rw [if_neg h0, if_neg h0, k157_255, if_neg (by decide), fin σ _ _ _ _ _ _ hS, y4]
    · rw [up]
      show up6 _ x _ i = up6 (jA σ 49) x (if jA σ 49 x = 0 then jA σ 49 z else jA σ 49 y) i
      by_cases h0 : jA σ 49 x = 0
      · rw [if_pos h0, idm z (by omega)]
      · rw [if_neg h0, idm y hy]
  · have y4 : y < 4 := hy4 (by decide)
    have a4 : (4 : Int32) + nI y = nI (4 + y) := by rw [show (4 : Int32) = nI 4 from rfl, nadd]
    refine ⟨jsA σ 49 x (jA σ 49 (4 + y) &&& mkW W), ?_, (FR.refl _ σ).A (by decide), fun i => ?_⟩
    · rw [start, show jsw 5 (nI 15) = 272 by decide, k157_272 t47 rn (by rw [rg]; exact Or.inl t49) (by rw [rg, n49, a4]; exact jin_n (by omega) (by decide)), if_neg (by decide), rg, a4, nI_clamp (by omega), fin σ _ _ _ _ _ _ hS]
    · rw [up, idm (4 + y) (by omega)]
      rfl
  · have y4 : y < 4 := hy4 (by decide)
    have a4 : (4 : Int32) + nI y = nI (4 + y) := by rw [show (4 : Int32) = nI 4 from rfl, nadd]
    have hS1 : SH (jsA σ 49 (4 + y) (jA σ 49 x)) := by rw [SH_A]; exact hS
    refine ⟨jsA (jsA σ 49 (4 + y) (jA σ 49 x)) 49 x (jA σ 49 x &&& mkW W), ?_, ((FR.refl _ σ).A (by decide)).A (by decide), fun i => ?_⟩
    · rw [start, show jsw 5 (nI 16) = 285 by decide, k157_285 t47 rn (by rw [rg]; exact t49) (by rw [rg, n49, a4]; exact jin_n (by omega) (by decide)), if_neg (by decide), rg, a4, nI_clamp (by omega), fin _ _ _ _ _ _ _ hS1]
    · rw [up, idm x (by omega)]
      show up6 (jA (jsA σ 49 (4 + y) (jA σ 49 x)) 49) x (jA σ 49 x) i = up6 (jA σ 49) (4 + y) (jA σ 49 x) i
      unfold up6
      by_cases h : i = x
      · rw [if_pos h, if_neg (by omega), h]
      · rw [if_neg h]; exact up σ (4 + y) (jA σ 49 x) i
  · refine ⟨σ, ?_, FR.refl _ σ, fun i => rfl⟩
    rw [start, show jsw 5 (nI 17) = 313 by decide, k157_313, if_pos (by decide), k157_330]
  · have y4 : y % 4 = y := Nat.mod_eq_of_lt (hy4 (by decide))
    have hS1 : SH (jsA σ 49 y (jA σ 49 x)) := by rw [SH_A]; exact hS
    refine ⟨jsA (jsA σ 49 y (jA σ 49 x)) 49 x (jA σ 49 y &&& mkW W), ?_, ((FR.refl _ σ).A (by decide)).A (by decide), fun i => ?_⟩
    · rw [start, show jsw 5 (nI 18) = 298 by decide, k157_298 t47 rn (by rw [rg]; exact t49) (by rw [rg, n49]; exact gyy), if_neg (by decide), rg, qyy, fin _ _ _ _ _ _ _ hS1, y4]
    · rw [up, idm y hy]
      show up6 (jA (jsA σ 49 y (jA σ 49 x)) 49) x (jA σ 49 y) i = up6 (up6 (jA σ 49) x (jA σ 49 y)) y (jA σ 49 x) i
      have u1 := up σ y (jA σ 49 x) i
      unfold up6 at u1 ⊢
      by_cases h : i = x
      · rw [if_pos h]
        by_cases h2 : i = y
        · rw [if_pos h2, ← h2, ← h]
        · rw [if_neg h2, if_pos h]
      · rw [if_neg h, u1, if_neg h]
end MA2
