/-! joined, part: whole -/
section SMA
variable {d : Nat} {σ : jS} {s : AS} {cr cp : Nat} {qr qp : Nat → Nat}
def RIc (σ υ : jS) (N n : Nat) (z : List (Nat → Int32)) : Prop := FR [66, 67, 68, 69] σ υ ∧ ∀ j i, j < 4 → jA υ (66 + j) i = if 24 * N ≤ i ∧ i < 24 * N + n then (z.getD (i - 24 * N) (fun _ => 0)) j else jA σ (66 + j) i
theorem RIc.zero {N : Nat} {z : List (Nat → Int32)} : RIc σ σ N 0 z := ⟨FR.refl _ σ, fun j i _ => by rw [if_neg (by omega)]⟩
theorem RIc.step {υ : jS} {N n x : Nat} {z : List (Nat → Int32)} (hS : SH σ) (h : RIc σ υ N n z) (hN : N < 16) (hn : n < 24) (hx : x < 24 * N) (hv : ∀ j, j < 4 → jA σ (66 + j) x = (z.getD n (fun _ => 0)) j) : ∃ υ', jx d 178 0 [some (.ref 47), some (.int (nI x)), some (.int (nI (24 * N + n)))] [] υ = some (none, υ') ∧ RIc σ υ' N (n + 1) z := by
  obtain ⟨υ', e, F, g⟩ := c178 (d := d) (h.1.sh hS) (x := x) (y := 24 * N + n) (by omega) (by omega)
  refine ⟨υ', e, h.1.trans F, fun j i hj => ?_⟩
  rw [g j i hj]
  by_cases e : i = 24 * N + n
  · rw [if_pos e, if_pos (by omega), h.2 j x hj, if_neg (by omega), hv j hj, e, Nat.add_sub_cancel_left]
  · rw [if_neg e, h.2 j i hj]
    by_cases b : 24 * N ≤ i ∧ i < 24 * N + n
    · rw [if_pos b, if_pos (by omega)]
    · rw [if_neg b, if_neg (by omega)]
/-- the size is put, the place counts -/
theorem RIc.fin {υ : jS} {n : Nat} {z : List (Nat → Int32)} (hs : WFs s) (hS : SH σ) (hM : CM s σ) (h : RIc σ υ s.ps.length n z) (en : z.length = n) (h24 : n ≤ 24) : CM (sApp s z) (jsI (jsA υ 65 s.ps.length (nI n)) 660 47 (nI (s.ps.length + 1))) ∧ SH (jsI (jsA υ 65 s.ps.length (nI n)) 660 47 (nI (s.ps.length + 1))) ∧ sameC σ (jsI (jsA υ 65 s.ps.length (nI n)) 660 47 (nI (s.ps.length + 1))) ∧ jnx (jsI (jsA υ 65 s.ps.length (nI n)) 660 47 (nI (s.ps.length + 1))) = jnx σ ∧ jsl (jsI (jsA υ 65 s.ps.length (nI n)) 660 47 (nI (s.ps.length + 1))) = jsl σ := by
  have F : FR [65, 66, 67, 68, 69] σ (jsA υ 65 s.ps.length (nI n)) := (h.1.mono (fun a ha => List.mem_cons_of_mem _ ha)).A (by decide)
  have hM1 : CM s (jsA υ 65 s.ps.length (nI n)) := by
    refine hM.cop hs (fun g => (F.2 47 (by decide)).1 g) (fun a i h1 h2 hp => ?_)
    rw [zA_A, if_neg (fun w => hp (Or.inl w))]
    by_cases e : 66 ≤ a ∧ a ≤ 69
    · have q := h.2 (a - 66) i (by omega)
      rw [show 66 + (a - 66) = a by omega] at q
      rw [q, if_neg (by omega)]
    · exact (h.1.2 a (by simp; omega)).2 i
  refine ⟨ref_app hM1 ⟨by rw [zA_A, if_pos ⟨rfl, rfl⟩, en], by omega, fun i j hi hj => ?_⟩, by rw [SH_I]; exact F.sh hS, (F.sc (fun a ha => by simp at ha; omega)).trans (i47sc 660 _), F.1.2.2.2.2.1, F.1.2.2.2.2.2⟩
  rw [zA_A, if_neg (fun w => by omega), h.2 j _ hj, if_pos (by omega), Nat.add_sub_cancel_left]
theorem ref_joined {p q : Nat} (hS : SH σ) (hs : WFs s) (hM : CM s σ) (hp : p < s.ps.length) (hq : q < s.ps.length) (hn : s.ps.length < 16) (h24 : (s.ps.getD p []).length + (s.ps.getD q []).length ≤ 24) : ∃ σ', jx (d + 2) 177 0 [some (.ref 47), some (.int (nI p)), some (.int (nI q)), none] [] σ = some (some (.int (nI s.ps.length)), σ') ∧ CM (sApp s (s.ps.getD p [] ++ s.ps.getD q [])) σ' ∧ SH σ' ∧ sameC σ σ' ∧ jnx σ' = jnx σ ∧ jsl σ' = jsl σ := by
  obtain ⟨A, eA⟩ : ∃ A, s.ps.getD p [] = A := ⟨_, rfl⟩
  obtain ⟨B, eB⟩ : ∃ B, s.ps.getD q [] = B := ⟨_, rfl⟩
  have pA := hM.ps p hp
  have pB := hM.ps q hq
  rw [eA] at pA h24
  rw [eB] at pB h24
  rw [eA, eB]
  have lz : (A ++ B).length = A.length + B.length := List.length_append
  have rg : ∀ {υ : jS}, SH υ → (jR υ 661 47).getD 0 = 65 := fun h => by rw [sR_661_47 h]; rfl
  have rn : ∀ {υ : jS}, SH υ → jR υ 661 47 ≠ none := fun h => by rw [sR_661_47 h]; exact fun z => nomatch z
  have tt : ∀ {υ : jS}, SH υ → jT υ ((jR υ 661 47).getD 0) = 20 := fun h => by rw [rg h]; exact sT_65 h
  have jj : ∀ {υ : jS} {k : Nat}, SH υ → k < 16 → jin (jN υ ((jR υ 661 47).getD 0)) (nI k) := fun h hk => by rw [rg h, sN_65 h]; exact jin_n hk (by decide)
  have cc : ∀ {k : Nat}, k < 16 → (nI k).toNatClampNeg = k := fun hk => nI_clamp (by omega)
  have c1 := c170y (d := d) hS hM hs (x := nI p) (inR_k (by omega) hp)
  have c2 := c170y (d := d) hS hM hs (x := nI q) (inR_k (by omega) hq)
  have L : ∀ f n υ, n + f = A.length + B.length → RIc σ υ s.ps.length n (A ++ B) → ∃ υ', jx (d + 2) 177 50 [some (.ref 47), some (.int (nI p)), some (.int (nI q)), some (.int (nI n))] [] υ = some (some (.int (nI s.ps.length)), jsI (jsA υ' 65 s.ps.length (nI (A.length + B.length))) 660 47 (nI (s.ps.length + 1))) ∧ RIc σ υ' s.ps.length (A.length + B.length) (A ++ B) := by
    intro f
    induction f with
    | zero =>
      intro n υ hf h
      have e : n = A.length + B.length := by omega
      subst e
      have hSυ := h.1.sh hS
      have a65 : ∀ k, jA υ 65 k = jA σ 65 k := (h.1.2 65 (by decide)).2
      have n660 : jI υ 660 47 = nI s.ps.length := by rw [(h.1.2 47 (by decide)).1]; exact hM.np
      refine ⟨υ, ?_, h⟩
      rw [k177_50 (sT_47 hSυ) (rn hSυ) (Or.inl (tt hSυ)) (jj hSυ (by omega)) (jj hSυ (by omega)), rg hSυ, cc (by omega), cc (by omega), a65, a65, pA.1, pB.1, nadd, if_pos (nI_le (Nat.le_refl _) (by omega)), k177_118 (sT_47 hSυ) (rn hSυ) (Or.inl (tt hSυ)) (jj hSυ (by omega)) (jj hSυ (by omega)) (tt hSυ) (by rw [n660]; exact jj hSυ (by omega)), rg hSυ, cc (by omega), cc (by omega), a65, a65, pA.1, pB.1, nadd, n660, cc (by omega), zI_I, if_pos ⟨rfl, rfl⟩, ← nI_succ, show (1 : Int32) = nI 1 from rfl, nsub (by omega), Nat.add_sub_cancel]
    | succ f ih =>
      intro n υ hf h
      have hSυ := h.1.sh hS
      have a65 : ∀ k, jA υ 65 k = jA σ 65 k := (h.1.2 65 (by decide)).2
      have n660 : jI υ 660 47 = nI s.ps.length := by rw [(h.1.2 47 (by decide)).1]; exact hM.np
      have ety : (24 : Int32) * nI s.ps.length + nI n = nI (24 * s.ps.length + n) := by rw [show (24 : Int32) = nI 24 from rfl, nmul, nadd]
      rw [k177_50 (sT_47 hSυ) (rn hSυ) (Or.inl (tt hSυ)) (jj hSυ (by omega)) (jj hSυ (by omega)), rg hSυ, cc (by omega), cc (by omega), a65, a65, pA.1, pB.1, nadd, if_neg (nI_ge (by omega) (by omega)), k177_67 (sT_47 hSυ) (rn hSυ) (Or.inl (tt hSυ)) (jj hSυ (by omega)), rg hSυ, cc (by omega), a65, pA.1]
      by_cases hlt : n < A.length
      · obtain ⟨υ1, e1, h1⟩ := h.step (d := d + 1) hS (x := 24 * p + n) hn (by omega) (by omega) (fun j hj => by rw [pA.2.2 n j hlt hj, getD_app, if_pos hlt])
        obtain ⟨υ', e', r⟩ := ih (n + 1) υ1 (by omega) h1
        refine ⟨υ', ?_, r⟩
        have etx : (24 : Int32) * nI p + nI n = nI (24 * p + n) := by rw [show (24 : Int32) = nI 24 from rfl, nmul, nadd]
        rw [if_neg (nI_ge (by omega) (by omega)), k177_78 (sT_47 hSυ), n660, ety, etx, e1]
        simp only [Option.bind_some, Option.toList_none, List.nil_append]
        rw [k177_112, ← nI_succ, e']
        exact sT_47 hSυ
      · obtain ⟨υ1, e1, h1⟩ := h.step (d := d + 1) hS (x := 24 * q + (n - A.length)) hn (by omega) (by omega) (fun j hj => by rw [pB.2.2 (n - A.length) j (by omega) hj, getD_app, if_neg hlt])
        obtain ⟨υ', e', r⟩ := ih (n + 1) υ1 (by omega) h1
        refine ⟨υ', ?_, r⟩
        have etx : (24 : Int32) * nI q + nI n - nI A.length = nI (24 * q + (n - A.length)) := by rw [show (24 : Int32) = nI 24 from rfl, nmul, nadd, nsub (by omega)]; congr 1; omega
        rw [if_pos (nI_le (by omega) (by omega)), k177_87 (sT_47 hSυ) (rn hSυ) (Or.inl (tt hSυ)) (jj hSυ (by omega)), rg hSυ, cc (by omega), a65, pA.1, n660, ety, etx, e1]
        simp only [Option.bind_some, Option.toList_none, List.nil_append]
        rw [k177_112, ← nI_succ, e']
        exact sT_47 hSυ
  obtain ⟨υ', e', r⟩ := L (A.length + B.length) 0 σ (by omega) RIc.zero
  obtain ⟨m1, m2, m3, m4, m5⟩ := r.fin hs hS hM lz h24
  refine ⟨_, ?_, m1, m2, m3, m4, m5⟩
  rw [← e', k177_0 (sT_47 hS), c1]
  simp only [Option.bind_some, Option.toList_some, List.cons_append, List.nil_append]
  rw [k177_5, if_neg (by decide), k177_8 (sT_47 hS), c2]
  simp only [Option.bind_some, Option.toList_some, List.cons_append, List.nil_append]
  have n16 : ¬ nI s.ps.length = 16 := by rw [show (16 : Int32) = nI 16 from rfl, n31eq (by omega) (by decide)]; omega
  have l24 : nI (A.length + B.length) ≤ 24 := nI_le (b := 24) h24 (by decide)
  rw [k177_13, if_pos (by decide), k177_18 (sT_47 hS), hM.np, if_neg n16, k177_27 (sT_47 hS) (rn hS) (Or.inl (tt hS)) (jj hS (by omega)) (jj hS (by omega)), rg hS, cc (by omega), cc (by omega), pA.1, pB.1, nadd, if_pos l24, k177_48]
  rfl
theorem ref_part {p fr t : Nat} (hS : SH σ) (hs : WFs s) (hM : CM s σ) (hp : p < s.ps.length) (hn : s.ps.length < 16) (hft : fr ≤ t) (ht : t ≤ (s.ps.getD p []).length) : ∃ σ', jx (d + 2) 179 0 [some (.ref 47), some (.int (nI p)), some (.int (nI fr)), some (.int (nI t)), none] [] σ = some (some (.int (nI s.ps.length)), σ') ∧ CM (sApp s (sub (s.ps.getD p []) fr t)) σ' ∧ SH σ' ∧ sameC σ σ' ∧ jnx σ' = jnx σ ∧ jsl σ' = jsl σ := by
  obtain ⟨A, eA⟩ : ∃ A, s.ps.getD p [] = A := ⟨_, rfl⟩
  have pA := hM.ps p hp
  rw [eA] at pA ht
  rw [eA]
  have h24 := pA.2.1
  have rg : ∀ {υ : jS}, SH υ → (jR υ 661 47).getD 0 = 65 := fun h => by rw [sR_661_47 h]; rfl
  have rn : ∀ {υ : jS}, SH υ → jR υ 661 47 ≠ none := fun h => by rw [sR_661_47 h]; exact fun z => nomatch z
  have tt : ∀ {υ : jS}, SH υ → jT υ ((jR υ 661 47).getD 0) = 20 := fun h => by rw [rg h]; exact sT_65 h
  have jj : ∀ {υ : jS} {k : Nat}, SH υ → k < 16 → jin (jN υ ((jR υ 661 47).getD 0)) (nI k) := fun h hk => by rw [rg h, sN_65 h]; exact jin_n hk (by decide)
  have cc : ∀ {k : Nat}, k < 16 → (nI k).toNatClampNeg = k := fun hk => nI_clamp (by omega)
  have c1 := c170y (d := d) hS hM hs (x := nI p) (inR_k (by omega) hp)
  have L : ∀ f n υ, fr + n + f = t → RIc σ υ s.ps.length n (sub A fr t) → ∃ υ', jx (d + 2) 179 44 [some (.ref 47), some (.int (nI p)), some (.int (nI fr)), some (.int (nI t)), some (.int (nI (fr + n)))] [] υ = some (some (.int (nI s.ps.length)), jsI (jsA υ' 65 s.ps.length (nI (t - fr))) 660 47 (nI (s.ps.length + 1))) ∧ RIc σ υ' s.ps.length (t - fr) (sub A fr t) := by
    intro f
    induction f with
    | zero =>
      intro n υ hf h
      have e : n = t - fr := by omega
      subst e
      have hSυ := h.1.sh hS
      have n660 : jI υ 660 47 = nI s.ps.length := by rw [(h.1.2 47 (by decide)).1]; exact hM.np
      refine ⟨υ, ?_, h⟩
      rw [k179_44, if_pos (nI_le (by omega) (by omega)), k179_79 (sT_47 hSυ) (rn hSυ) (tt hSυ) (by rw [n660]; exact jj hSυ (by omega)), rg hSυ, n660, cc (by omega), nsub hft, zI_I, if_pos ⟨rfl, rfl⟩, ← nI_succ, show (1 : Int32) = nI 1 from rfl, nsub (by omega), Nat.add_sub_cancel]
    | succ f ih =>
      intro n υ hf h
      have hSυ := h.1.sh hS
      have n660 : jI υ 660 47 = nI s.ps.length := by rw [(h.1.2 47 (by decide)).1]; exact hM.np
      have ety : (24 : Int32) * nI s.ps.length + nI (fr + n) - nI fr = nI (24 * s.ps.length + n) := by rw [show (24 : Int32) = nI 24 from rfl, nmul, nadd, nsub (by omega)]; congr 1; omega
      have etx : (24 : Int32) * nI p + nI (fr + n) = nI (24 * p + (fr + n)) := by rw [show (24 : Int32) = nI 24 from rfl, nmul, nadd]
      obtain ⟨υ1, e1, h1⟩ := h.step (d := d + 1) hS (x := 24 * p + (fr + n)) hn (by omega) (by omega) (fun j hj => by rw [pA.2.2 (fr + n) j (by omega) hj, sub_get ht (by omega)])
      obtain ⟨υ', e', r⟩ := ih (n + 1) υ1 (by omega) h1
      refine ⟨υ', ?_, r⟩
      rw [k179_44, if_neg (nI_ge (by omega) (by omega)), k179_50 (sT_47 hSυ), n660, ety, etx, e1]
      simp only [Option.bind_some, Option.toList_none, List.nil_append]
      rw [k179_73, ← nI_succ]
      exact e'
  obtain ⟨υ', e', r⟩ := L (t - fr) 0 σ (by omega) RIc.zero
  obtain ⟨m1, m2, m3, m4, m5⟩ := r.fin hs hS hM (sub_len ht) (by omega)
  refine ⟨_, ?_, m1, m2, m3, m4, m5⟩
  rw [← e', k179_0 (sT_47 hS), c1]
  simp only [Option.bind_some, Option.toList_some, List.cons_append, List.nil_append]
  have n16 : ¬ nI s.ps.length = 16 := by rw [show (16 : Int32) = nI 16 from rfl, n31eq (by omega) (by decide)]; omega
  have nlt : ¬ nI t < nI fr := by rw [n31 (by omega) (by omega)]; omega
  rw [k179_5, if_neg (by decide), k179_8, if_neg (nn0 (by omega)), k179_12, if_neg nlt, k179_17 (sT_47 hS) (rn hS) (Or.inl (tt hS)) (jj hS (by omega)), rg hS, cc (by omega), pA.1, if_pos (nI_le ht (by omega)), k179_29 (sT_47 hS), hM.np, if_pos n16, k179_41]
  rfl
end SMA
