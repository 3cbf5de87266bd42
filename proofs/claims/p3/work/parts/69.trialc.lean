/-! the class's trial: pieces -/
theorem rg_id {rg : Nat → Int32} (h : ∀ i, i < 4 → rg i = nI i) (x : Int32) : rgV rg x = rgV idR x := by
  unfold rgV
  by_cases c : x < 0 ∨ 4 ≤ x
  · rw [if_pos c, if_pos c]
  · have q := i32_nat (c := x) (n := 4) (by decide) (fun z => c (Or.inl z)) (fun z => c (Or.inr z))
    rw [if_neg c, if_neg c, h _ q.2]
    rfl
theorem wrO_rg {W : Nat} {rg mv : Nat → Int32} (h : ∀ i, i < 4 → rg i = nI i) (o : Nat → Int32) : wrO W rg mv o = wrO W idR mv o := by
  funext j
  unfold wrO
  rw [rg_id h]
theorem tv_mv {nm : Nat} (hnm : nm ≤ 3) {mv mw : Nat → Int32} (h : ∀ i, i < nm → mv i = mw i) {t : Int32} (ht : WFt nm t) : tvV mv t = tvV mw t := by
  unfold tvV
  rcases ht with ⟨u, hu, e⟩ | ⟨i, hi, e⟩
  · have n : ¬ (16 : Int32) ≤ nI u := nI_ge (b := 16) (by omega) (by omega)
    rw [e, if_neg n, if_neg n]
  · have v := i16n (i := i) (by omega)
    rw [e, if_pos v.1, if_pos v.1, v.2.2]
    unfold nmV
    rw [nI_clamp (by omega), h i hi]
theorem wrM_mv {W nr nm : Nat} (hnm : nm ≤ 3) {mv mw : Nat → Int32} (h : ∀ i, i < nm → mv i = mw i) {o : Nat → Int32} (ho : WFo nr nm o) : wrM W mv o = wrM W mw o := by
  obtain ⟨k, k1, k2, k3, k4, k5⟩ := ho
  have ko : opO o = k := by unfold opO; rw [k2]; exact nI_clamp (by omega)
  funext j
  unfold wrM
  by_cases c : j = 2 ∧ numN (opO o) = true
  · have e : numM W mv o = numM W mw o := by
      unfold numM
      rw [tv_mv hnm h (k4 (by rw [← ko]; exact c.2))]
      rcases k5 with k5 | ⟨_, _, k6⟩
      · rw [k5]; rfl
      · rw [tv_mv hnm h k6]
    rw [e]
  · rw [if_neg c, if_neg c]
theorem map_mv {W nr nm : Nat} (hnm : nm ≤ 3) {mv mw : Nat → Int32} (h : ∀ i, i < nm → mv i = mw i) : ∀ os : List (Nat → Int32), (∀ o, o ∈ os → WFo nr nm o) → os.map (wrM W mv) = os.map (wrM W mw) := fun os ho => List.map_congr_left (fun o hm => wrM_mv hnm h (ho o hm))
/-- what the class's machine tells of a side that is written out -/
theorem like1 {W nr nm : Nat} (hW : W = 1 ∨ W = 2 ∨ W = 3) (hnr : nr ≤ 4) (hnm : nm ≤ 3) {hc : Bool} {t v rg mv : Nat → Int32} (hV : VB W (wdN nr hc) (wdN nr hc + nm) t v) (hrg : ∀ i, i < 4 → rg i = nI i) (hmv : ∀ i, i < nm → mv i = v (wdN nr hc + i)) {os : List (Nat → Int32)} (ho : ∀ o, o ∈ os → WFo nr nm o) :
    pkU W (exL W ((os.map (keepF W)).map (wrO W rg mv)) (unp W (pkU W (w0F nr hc v) 8))) 8 = pkU W (exS W nr hc os v) 8 ∧ ∀ e, e ∈ (os.map (keepF W)).map (wrO W rg mv) → PWF e := by
  have hm : MV nm mv := fun i hi => by rw [hmv i hi]; exact hV.mv i hi
  have e1 : (os.map (keepF W)).map (wrO W rg mv) = (os.map (keepF W)).map (wrO W idR mv) := by
    apply List.map_congr_left
    intro o _
    exact wrO_rg hrg o
  have P : ∀ e, e ∈ (os.map (keepF W)).map (wrO W rg mv) → PWF e := by
    intro e he
    rw [e1] at he
    obtain ⟨c, hc', ec⟩ := List.mem_map.mp he
    obtain ⟨o, ho', eo⟩ := List.mem_map.mp hc'
    obtain ⟨k, x, y, z, h8, q0, q1, q2, q3, _, _⟩ := wrM_PWF hW hnr hnm hm (ho o ho')
    rw [← ec, ← eo]
    exact ⟨k, x, y, z, h8, by rw [wr_same hW hnr hnm hm (ho o ho') (by decide)]; exact q0, by rw [wr_same hW hnr hnm hm (ho o ho') (by decide)]; exact q1, by rw [wr_same hW hnr hnm hm (ho o ho') (by decide)]; exact q2, by rw [wr_same hW hnr hnm hm (ho o ho') (by decide)]; exact q3⟩
  refine ⟨pkU_cong 8 (fun i hi => ?_), P⟩
  rw [exL_cong _ _ (w0F nr hc v) P (fun j hj => unp_pk hW (hV.wd hnr) hj) i hi, e1, exL_same hW hnr hnm hm os _ ho, map_mv hnm (mw := mvF (wdN nr hc) v) hmv os ho]
  rfl
section TRC
variable {d : Nat} {W : Nat}
theorem c58 {σ : jS} {B br bn : Nat} (hB : BD σ B br bn) (hn : ¬ B = br) : ∃ σ', jx d 58 0 [some (.ref B), none] [] σ = some (none, σ') ∧ FR [br] σ σ' ∧ ∀ i, i < 4 → jA σ' br i = nI i := by
  obtain ⟨h1, h2, h3, h4, h5, h6, h7⟩ := hB
  have L : ∀ f n σ1, n + f = 4 → FR [br] σ σ1 → (∀ i, i < n → jA σ1 br i = nI i) → ∃ σ', jx d 58 2 [some (.ref B), some (.int (nI n))] [] σ1 = some (none, σ') ∧ FR [br] σ σ' ∧ ∀ i, i < 4 → jA σ' br i = nI i := by
    intro f
    induction f with
    | zero =>
      intro n σ1 hn' F h
      have e : n = 4 := by omega
      subst e
      have rg : (jR σ1 0 B).getD 0 = br := by rw [F.1.2.2.1, h2]; rfl
      refine ⟨σ1, ?_, F, h⟩
      rw [k58_2 (by rw [F.1.1]; exact h1) (by rw [F.1.2.2.1, h2]; exact fun z => nomatch z) (by rw [rg, F.1.1, h4]; decide), rg, F.1.2.1, h5, if_pos (show Int32.ofNat 4 ≤ nI 4 by decide), k58_24]
    | succ f ih =>
      intro n σ1 hn' F h
      have rg : (jR σ1 0 B).getD 0 = br := by rw [F.1.2.2.1, h2]; rfl
      have rn : jR σ1 0 B ≠ none := by rw [F.1.2.2.1, h2]; exact fun z => nomatch z
      have gt : ¬ Int32.ofNat 4 ≤ nI n := nI_ge (by omega) (by omega)
      obtain ⟨σ', e, F', h'⟩ := ih (n + 1) (jsA σ1 br n (nI n)) (by omega) (F.A (by simp)) (fun i hi => by
        rw [zA_A]
        by_cases q : i = n
        · rw [if_pos ⟨rfl, q⟩, q]
        · rw [if_neg (fun w => q w.2)]; exact h i (by omega))
      refine ⟨σ', ?_, F', h'⟩
      rw [← e, k58_2 (by rw [F.1.1]; exact h1) rn (by rw [rg, F.1.1, h4]; decide), rg, F.1.2.1, h5, if_neg gt, k58_11 (by rw [F.1.1]; exact h1) rn (by rw [rg, F.1.1]; exact h4) (by rw [rg, F.1.2.1, h5]; exact jin_n (by omega) (by decide)), rg, nI_clamp (by omega), ← nI_succ]
  rw [k58_0]
  exact L 4 0 σ rfl (FR.refl _ σ) (fun i hi => absurd hi (Nat.not_lt_zero i))
theorem c60 {σ : jS} {B br bn k : Nat} (hB : BD σ B br bn) (hk : k < 3) (v : Int32) : jx d 60 0 [some (.ref B), some (.int (nI k)), some (.int v)] [] σ = some (none, jsA σ bn k v) := by
  obtain ⟨h1, h2, h3, h4, h5, h6, h7⟩ := hB
  have rg : (jR σ 1 B).getD 0 = bn := by rw [h3]; rfl
  have rn : jR σ 1 B ≠ none := by rw [h3]; exact fun z => nomatch z
  have gt : ¬ Int32.ofNat 3 ≤ nI k := nI_ge (by omega) (by omega)
  rw [k60_0, if_neg (nn0 (by omega)), k60_4 h1 rn (by rw [rg, h6]; decide), rg, h7, if_neg gt, k60_13 h1 rn (by rw [rg]; exact h6) (by rw [rg, h7]; exact jin_n (by omega) (by decide)), rg, nI_clamp (by omega)]
theorem BD34 {σ : jS} (hS : SH σ) : BD σ 34 35 36 := ⟨sT_34 hS, sR_0_34 hS, sR_1_34 hS, sT_35 hS, sN_35 hS, sT_36 hS, sN_36 hS⟩
theorem BD38 {σ : jS} (hS : SH σ) : BD σ 38 39 40 := ⟨sT_38 hS, sR_0_38 hS, sR_1_38 hS, sT_39 hS, sN_39 hS, sT_40 hS, sN_40 hS⟩
theorem c59 {σ : jS} {r q1 a1 q2 a2 t u wd nm n1 n2 : Nat} {c1 c2 : List (Nat → Int32)} {v : Nat → Int32} (hS : SH σ) (hQ : ST σ) (hU : RU σ r q1 a1 q2 a2 t u) (hbig : ∀ x, x ∈ [r, q1, a1, q2, a2, t, u] → 81 ≤ x) (h1 : RO σ q1 a1 4 c1) (h2 : RO σ q2 a2 4 c2) (k1 : ∀ o, o ∈ c1 → OPk o) (k2 : ∀ o, o ∈ c2 → OPk o) (e5 : jI σ 325 r = nI nm) (e6 : jI σ 326 r = nI (wd + nm)) (hnm : nm ≤ 3) (hN : wd + nm ≤ 11) (w1 : RW σ 30 31 4 n1) (w2 : RW σ 32 33 4 n2) (hv : ∀ k, k < 11 → jA σ 37 k = v k) :
    ∃ σ', jx (d + 3) 59 0 [some (.ref 27), some (.ref r), some (.int (nI W)), none, none] [] σ = some (none, σ') ∧ FR [30, 31, 32, 33, 36] σ σ' ∧ (∀ i, i < nm → jA σ' 36 i = v (wd + i)) ∧ RO σ' 30 31 4 (c1.map (wrO W (jA σ 35) (jA σ' 36))) ∧ RO σ' 32 33 4 (c2.map (wrO W (jA σ 35) (jA σ' 36))) := by
  have tr : jT σ r = 6 := hU.1
  have b1 : 81 ≤ q1 := hbig q1 (by simp)
  have b2 : 81 ≤ a1 := hbig a1 (by simp)
  have b3 : 81 ≤ q2 := hbig q2 (by simp)
  have b4 : 81 ≤ a2 := hbig a2 (by simp)
  have b5 : 81 ≤ r := hbig r (by simp)
  have L : ∀ f n σ1, n + f = nm → FR [36] σ σ1 → (∀ i, i < n → jA σ1 36 i = v (wd + i)) → ∃ σ2, jx (d + 3) 59 13 [some (.ref 27), some (.ref r), some (.int (nI W)), some (.int (nI wd)), some (.int (nI n))] [] σ1 = jx (d + 3) 59 62 [some (.ref 27), some (.ref r), some (.int (nI W)), some (.int (nI wd)), some (.int (nI nm))] [] σ2 ∧ FR [36] σ σ2 ∧ ∀ i, i < nm → jA σ2 36 i = v (wd + i) := by
    intro f
    induction f with
    | zero =>
      intro n σ1 hn F h
      have e : n = nm := by omega
      subst e
      refine ⟨σ1, ?_, F, h⟩
      rw [k59_13 (by rw [F.1.1]; exact tr), (F.2 r (by simp; omega)).1, e5, if_pos (nI_le (Nat.le_refl _) (by omega))]
    | succ f ih =>
      intro n σ1 hn F h
      have hS1 := F.sh hS
      have rg6 : (jR σ1 516 27).getD 0 = 37 := by rw [sR_516_27 hS1]; rfl
      have rn6 : jR σ1 516 27 ≠ none := by rw [sR_516_27 hS1]; exact fun z => nomatch z
      have rg5 : (jR σ1 515 27).getD 0 = 34 := by rw [sR_515_27 hS1]; rfl
      have rn5 : jR σ1 515 27 ≠ none := by rw [sR_515_27 hS1]; exact fun z => nomatch z
      have g11 : ¬ Int32.ofNat 11 ≤ nI (wd + n) := nI_ge (by omega) (by omega)
      obtain ⟨σ2, e2, F2, h2'⟩ := ih (n + 1) (jsA σ1 36 n (v (wd + n))) (by omega) (F.A (by simp)) (fun i hi => by
        rw [zA_A]
        by_cases q : i = n
        · rw [if_pos ⟨rfl, q⟩, q]
        · rw [if_neg (fun w => q w.2)]; exact h i (by omega))
      refine ⟨σ2, ?_, F2, h2'⟩
      rw [← e2, k59_13 (by rw [F.1.1]; exact tr), (F.2 r (by simp; omega)).1, e5, if_neg (nI_ge (by omega) (by omega)), k59_22, if_neg (nn0 (by omega)), k59_26 (sT_27 hS1) rn6 (by rw [rg6, sT_37 hS1]; decide), rg6, sN_37 hS1, nadd, if_neg g11]
      rw [k59_38 (sT_27 hS1) rn5 rn6 (by rw [rg6]; exact Or.inl (sT_37 hS1)) (by rw [rg6, sN_37 hS1, nadd]; exact jin_n (by omega) (by decide)) (by rw [rg5]; exact sT_34 hS1), rg5, rg6, nadd, nI_clamp (by omega), (F.2 37 (by decide)).2, hv (wd + n) (by omega), c60 (BD34 hS1) (by omega)]
      simp only [Option.bind_some, Option.toList_none, List.nil_append]
      rw [k59_56, ← nI_succ]
  obtain ⟨σ2, e2, F2, h2'⟩ := L nm 0 σ (by omega) (FR.refl _ σ) (fun i hi => absurd hi (Nat.not_lt_zero i))
  have hS2 := F2.sh hS
  have hQ2 := F2.st (by decide) (by decide) hQ
  obtain ⟨σ3, e3, F3, g3, R3⟩ := c61 (d := d) (W := W) hS2 hQ2 (w1.frame F2 (by decide)) (h1.frame F2 (by simp; omega) (by simp; omega)) (BD34 hS2) k1 (by decide) (fun x hx => by simp at hx; simp; omega)
  have hS3 := F3.sh hS2
  have hQ3 := F3.st (by decide) (by decide) hQ2
  have F23 : FR [30, 31, 36] σ σ3 := (F2.mono (by decide)).trans (F3.mono (by decide))
  obtain ⟨σ4, e4, F4, g4, R4⟩ := c61 (d := d) (W := W) hS3 hQ3 (w2.frame F23 (by decide)) (h2.frame F23 (by simp; omega) (by simp; omega)) (BD34 hS3) k2 (by decide) (fun x hx => by simp at hx; simp; omega)
  have x35 : jA σ2 35 = jA σ 35 := by funext i; exact (F2.2 35 (by decide)).2 i
  have x35' : jA σ3 35 = jA σ 35 := by funext i; exact (F23.2 35 (by decide)).2 i
  have x36 : jA σ4 36 = jA σ2 36 := by funext i; rw [(F4.2 36 (by decide)).2, (F3.2 36 (by decide)).2]
  have x36' : jA σ3 36 = jA σ2 36 := by funext i; exact (F3.2 36 (by decide)).2 i
  refine ⟨σ4, ?_, (F23.mono (by decide)).trans (F4.mono (by decide)), fun i hi => by rw [x36]; exact h2' i hi, ?_, ?_⟩
  · have rg3 : (jR σ2 513 27).getD 0 = 30 := by rw [sR_513_27 hS2]; rfl
    have rg5 : (jR σ2 515 27).getD 0 = 34 := by rw [sR_515_27 hS2]; rfl
    have rg4 : (jR σ3 514 27).getD 0 = 32 := by rw [sR_514_27 hS3]; rfl
    have rg5' : (jR σ3 515 27).getD 0 = 34 := by rw [sR_515_27 hS3]; rfl
    have tr2 : jT σ2 r = 6 := by rw [F2.1.1]; exact tr
    have tr3 : jT σ3 r = 6 := by rw [F23.1.1]; exact tr
    have ra : (jR σ2 320 r).getD 0 = q1 := by rw [F2.1.2.2.1, hU.2.1]; rfl
    have rb : (jR σ3 321 r).getD 0 = q2 := by rw [F23.1.2.2.1, hU.2.2.1]; rfl
    rw [k59_0 tr, e6, e5, nsub (by omega), Nat.add_sub_cancel]
    have e2' : jx (d + 3) 59 13 [some (.ref 27), some (.ref r), some (.int (nI W)), some (.int (nI wd)), some (.int 0)] [] σ = _ := e2
    rw [e2', k59_62 (sT_27 hS2) (by rw [sR_513_27 hS2]; exact fun z => nomatch z) tr2 (by rw [F2.1.2.2.1, hU.2.1]; exact fun z => nomatch z) (by rw [sR_515_27 hS2]; exact fun z => nomatch z) (by rw [rg3]; exact sT_30 hS2), rg3, rg5, ra, e3]
    simp only [Option.bind_some, Option.toList_none, List.nil_append]
    rw [k59_78 (sT_27 hS3) (by rw [sR_514_27 hS3]; exact fun z => nomatch z) tr3 (by rw [F23.1.2.2.1, hU.2.2.1]; exact fun z => nomatch z) (by rw [sR_515_27 hS3]; exact fun z => nomatch z) (by rw [rg4]; exact sT_32 hS3), rg4, rg5', rb, e4]
    simp only [Option.bind_some, Option.toList_none, List.nil_append]
    rw [k59_94]
  · rw [x35, ← x36] at R3
    exact R3.frame F4 (by decide) (by decide)
  · rw [x35', x36', ← x36] at R4
    exact R4
end TRC
