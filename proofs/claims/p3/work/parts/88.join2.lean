/-! joined, part -/
def sApp (s : AS) (z : List (Nat → Int32)) : AS := (s.W, s.len, s.b, s.rs, s.ps ++ [z], s.ns, s.tl, s.ap)
theorem sApp_len {s : AS} {z : List (Nat → Int32)} : (sApp s z).ps.length = s.ps.length + 1 := by
  show (s.ps ++ [z]).length = _
  rw [List.length_append]; rfl
theorem sApp_wf {s : AS} {z : List (Nat → Int32)} (hs : WFs s) (hn : s.ps.length < 16) (hz : z.length ≤ 24 ∧ ∀ o, o ∈ z → PWF o) : WFs (sApp s z) := ⟨hs.w, hs.l, hs.byy, hs.r24, by rw [sApp_len]; omega, hs.fr, fun p hp => by
  rcases List.mem_append.mp hp with q | q
  · exact hs.fp p q
  · rw [List.mem_singleton] at q
    rw [q]; exact hz, hs.n144⟩
theorem sub_mem {ss : List (Nat → Int32)} {fr t : Nat} {o : Nat → Int32} (h : o ∈ sub ss fr t) : o ∈ ss := List.mem_of_mem_take (List.mem_of_mem_drop h)
theorem sub_all {ss : List (Nat → Int32)} : sub ss 0 ss.length = ss := by
  unfold sub
  rw [List.take_length, List.drop_zero]
section SM9
variable {d : Nat} {σ : jS} {s : AS} {cr cp : Nat} {qr qp : Nat → Nat}
theorem cls_app {z : List (Nat → Int32)} (hS : SH σ) (hC : CX s cr cp qr qp σ) (hc : s.ps.length < cp) (ro : RO σ (qp s.ps.length) (qp s.ps.length + 1) 24 z) : CX (sApp s z) cr cp qr qp (jsI σ 586 16 (nI (s.ps.length + 1))) := by
  refine hC.fr (i16FR 586 _) (by decide) (by rw [zI_I, if_neg (by decide)]; exact hC.nr) (by rw [zI_I, if_pos ⟨rfl, rfl⟩, sApp_len]) (by rw [zI_I, if_neg (by decide)]; exact hC.w) (by rw [zI_I, if_neg (by decide)]; exact hC.ap) rfl rfl rfl rfl hC.lr.1 (by rw [sApp_len]; omega) hC.rs (fun i hi => ?_)
  rw [sApp_len] at hi
  show RO _ _ _ _ ((s.ps ++ [z]).getD i [])
  rw [app_ps hi]
  by_cases e : i = s.ps.length
  · rw [if_pos e, e]; exact ro
  · rw [if_neg e]; exact hC.ps i (by omega)
theorem ref_app {z : List (Nat → Int32)} (hM : CM s σ) (pm : PM σ s.ps.length z) : CM (sApp s z) (jsI σ 660 47 (nI (s.ps.length + 1))) := by
  refine hM.I47 (by rw [zI_I, if_neg (by decide)]; exact hM.nr) (by rw [zI_I, if_pos ⟨rfl, rfl⟩, sApp_len]) (by rw [zI_I, if_neg (by decide)]; exact hM.w) (by rw [zI_I, if_neg (by decide)]; exact hM.ap) (by rw [TM_I (by decide)]; exact hM.tm) (by rw [zI_I, if_neg (by decide)]; exact hM.ns) hM.tl hM.rs (fun i hi => ?_)
  rw [sApp_len] at hi
  show PM _ _ ((s.ps ++ [z]).getD i [])
  rw [app_ps hi]
  by_cases e : i = s.ps.length
  · rw [if_pos e, e]; exact pm
  · rw [if_neg e]; exact hM.ps i (by omega)
/-- the reference copies into the free place -/
theorem CM.cop {σ' : jS} (hs : WFs s) (hM : CM s σ) (hI : ∀ g, jI σ' g 47 = jI σ g 47) (hA : ∀ a i, 48 ≤ a → a ≤ 80 → ¬ ((a = 65 ∧ i = s.ps.length) ∨ (66 ≤ a ∧ a ≤ 69 ∧ 24 * s.ps.length ≤ i)) → jA σ' a i = jA σ a i) : CM s σ' :=
  hM.ar hs (P := fun a i => (a = 65 ∧ i = s.ps.length) ∨ (66 ≤ a ∧ a ≤ 69 ∧ 24 * s.ps.length ≤ i)) (fun g _ _ _ => hI g) hA (fun a i hp => by
    unfold PSF
    omega)
/-- what the class does for joined, part: two appends into a fresh place -/
theorem cls_new (hS : SH σ) (hx : 81 ≤ jnx σ) (hC : CX s cr cp qr qp σ) (hn : s.ps.length < 16) : ∃ σ' cp' qp', jx (d + 2) 77 0 [some (.ref 16), none] [] σ = some (some (.ref (qp' s.ps.length)), σ') ∧ CX s cr cp' qr qp' σ' ∧ s.ps.length < cp' ∧ RO σ' (qp' s.ps.length) (qp' s.ps.length + 1) 24 [] ∧ SH σ' ∧ sameM σ σ' ∧ low σ σ' ∧ jnx σ ≤ jnx σ' ∧ jnx σ' ≤ jnx σ + 2 ∧ jsl σ' ≤ jsl σ + 147 ∧ (∀ i, i < s.ps.length → qp' i = qp i) := by
  obtain ⟨σ', q, cp', qp', h1, h2, h3, h4, h5, h6, h7, h8, h9, h10, h11, h12⟩ := c77q (d := d) hS hx hC hn
  subst h3
  exact ⟨σ', cp', qp', h1, h2, h4, ⟨h5, h5.2.2.2.2.2.1, fun i j hi _ => absurd hi (Nat.not_lt_zero i)⟩, h6, h7, h8, h9, h10, h11, h12⟩
theorem cls_put {k fr t : Nat} {ds : List (Nat → Int32)} (hS : SH σ) (hC : CX s cr cp qr qp σ) (hc : s.ps.length < cp) (ro : RO σ (qp s.ps.length) (qp s.ps.length + 1) 24 ds) (hk : k < s.ps.length) (hft : fr ≤ t) (ht : t ≤ (s.ps.getD k []).length) (hm : ds.length + (t - fr) ≤ 24) : ∃ σ', jx (d + 3) 93 0 [some (.ref (qp s.ps.length)), some (.ref (qp k)), some (.int (nI fr)), some (.int (nI t)), none] [] σ = some (none, σ') ∧ CX s cr cp qr qp σ' ∧ RO σ' (qp s.ps.length) (qp s.ps.length + 1) 24 (ds ++ sub (s.ps.getD k []) fr t) ∧ SH σ' ∧ sameM σ σ' ∧ low σ σ' ∧ jnx σ' = jnx σ ∧ jsl σ' = jsl σ := by
  have dj := hC.dj
  have bq := dj.p s.ps.length hc
  have b2 := dj.pp k s.ps.length (by omega) hc (by omega)
  obtain ⟨σ', e, F, g, r⟩ := c93 (d := d) ro ht hft hm (hC.ps k hk) (by omega) (by simp; omega) (by simp; omega)
  refine ⟨σ', e, hC.free hc F (fun x hx => by simp at hx; omega) (g 256 (by decide)), r, F.sh hS, F.sm (fun a h1 h2 z => by simp at z; omega), F.low (fun a z => by simp at z; omega), F.1.2.2.2.2.1, F.1.2.2.2.2.2⟩
end SM9
