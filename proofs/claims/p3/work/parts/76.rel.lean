/-! what class and reference keep, and that it is the same -/
abbrev AR : Type := Nat × Nat × Bool × List (Nat → Int32) × List (Nat → Int32) × Nat × Nat × Int32 × Bool
def AR.nr (a : AR) : Nat := a.1
def AR.nm (a : AR) : Nat := a.2.1
def AR.hc (a : AR) : Bool := a.2.2.1
def AR.o1 (a : AR) : List (Nat → Int32) := a.2.2.2.1
def AR.o2 (a : AR) : List (Nat → Int32) := a.2.2.2.2.1
def AR.P (a : AR) : Nat := a.2.2.2.2.2.1
def AR.C (a : AR) : Nat := a.2.2.2.2.2.2.1
def AR.ch (a : AR) : Int32 := a.2.2.2.2.2.2.2.1
def AR.on (a : AR) : Bool := a.2.2.2.2.2.2.2.2
abbrev AS : Type := Nat × Nat × (Nat → Int32) × List AR × List (List (Nat → Int32)) × Nat × (Nat → Nat → Int32) × Int32
def AS.W (s : AS) : Nat := s.1
def AS.len (s : AS) : Nat := s.2.1
def AS.b (s : AS) : Nat → Int32 := s.2.2.1
def AS.rs (s : AS) : List AR := s.2.2.2.1
def AS.ps (s : AS) : List (List (Nat → Int32)) := s.2.2.2.2.1
def AS.ns (s : AS) : Nat := s.2.2.2.2.2.1
def AS.tl (s : AS) : Nat → Nat → Int32 := s.2.2.2.2.2.2.1
def AS.ap (s : AS) : Int32 := s.2.2.2.2.2.2.2
def ar0 : AR := ⟨0, 0, false, [], [], 0, 0, 0, false⟩
def gnA (a : AR) : Int32 := prcL a.o1 0 - prcL a.o2 0
abbrev sndA (a : AR) : Prop := a.C = a.P ∧ 0 < gnA a
/-- every register, every mark stands in the first side -/
def OCC (nr nm : Nat) (os : List (Nat → Int32)) : Prop := (∀ i, i < nr → ∃ o, o ∈ os ∧ ∃ j, j < regN (opO o) ∧ o (j + 1) = nI i) ∧ (∀ i, i < nm → ∃ o, o ∈ os ∧ numN (opO o) = true ∧ o 2 = 16 + nI i)
def WFr (a : AR) : Prop := (a.nr ≤ 4) ∧ (a.nm ≤ 3) ∧ (∀ o, o ∈ a.o1 → WFo a.nr a.nm o) ∧ (∀ o, o ∈ a.o2 → WFo a.nr a.nm o) ∧ (∀ o, o ∈ a.o1 → o 4 = 0) ∧ (1 ≤ a.o1.length) ∧ (a.o1.length ≤ 4) ∧ (a.o2.length ≤ 4) ∧ (1 ≤ a.P) ∧ (a.P ≤ 70000) ∧ (a.C ≤ a.P) ∧ OCC a.nr a.nm a.o1
theorem WFr.nr4 {a : AR} (h : WFr a) : a.nr ≤ 4 := h.1
theorem WFr.nm3 {a : AR} (h : WFr a) : a.nm ≤ 3 := h.2.1
theorem WFr.f1 {a : AR} (h : WFr a) : ∀ o, o ∈ a.o1 → WFo a.nr a.nm o := h.2.2.1
theorem WFr.f2 {a : AR} (h : WFr a) : ∀ o, o ∈ a.o2 → WFo a.nr a.nm o := h.2.2.2.1
theorem WFr.z4 {a : AR} (h : WFr a) : ∀ o, o ∈ a.o1 → o 4 = 0 := h.2.2.2.2.1
theorem WFr.l1 {a : AR} (h : WFr a) : 1 ≤ a.o1.length := h.2.2.2.2.2.1
theorem WFr.l4 {a : AR} (h : WFr a) : a.o1.length ≤ 4 := h.2.2.2.2.2.2.1
theorem WFr.m4 {a : AR} (h : WFr a) : a.o2.length ≤ 4 := h.2.2.2.2.2.2.2.1
theorem WFr.p1 {a : AR} (h : WFr a) : 1 ≤ a.P := h.2.2.2.2.2.2.2.2.1
theorem WFr.pm {a : AR} (h : WFr a) : a.P ≤ 70000 := h.2.2.2.2.2.2.2.2.2.1
theorem WFr.cp {a : AR} (h : WFr a) : a.C ≤ a.P := h.2.2.2.2.2.2.2.2.2.2.1
theorem WFr.oc {a : AR} (h : WFr a) : OCC a.nr a.nm a.o1 := h.2.2.2.2.2.2.2.2.2.2.2
def WFs (s : AS) : Prop := (s.W = 1 ∨ s.W = 2 ∨ s.W = 3) ∧ (s.len ≤ 400) ∧ (BY s.len s.b) ∧ (s.rs.length ≤ 24) ∧ (s.ps.length ≤ 16) ∧ (∀ a, a ∈ s.rs → WFr a) ∧ (∀ p, p ∈ s.ps → p.length ≤ 24 ∧ ∀ o, o ∈ p → PWF o) ∧ (s.ns ≤ 144)
theorem WFs.w {s : AS} (h : WFs s) : s.W = 1 ∨ s.W = 2 ∨ s.W = 3 := h.1
theorem WFs.l {s : AS} (h : WFs s) : s.len ≤ 400 := h.2.1
theorem WFs.byy {s : AS} (h : WFs s) : BY s.len s.b := h.2.2.1
theorem WFs.r24 {s : AS} (h : WFs s) : s.rs.length ≤ 24 := h.2.2.2.1
theorem WFs.p16 {s : AS} (h : WFs s) : s.ps.length ≤ 16 := h.2.2.2.2.1
theorem WFs.fr {s : AS} (h : WFs s) : ∀ a, a ∈ s.rs → WFr a := h.2.2.2.2.2.1
theorem WFs.fp {s : AS} (h : WFs s) : ∀ p, p ∈ s.ps → p.length ≤ 24 ∧ ∀ o, o ∈ p → PWF o := h.2.2.2.2.2.2.1
theorem WFs.n144 {s : AS} (h : WFs s) : s.ns ≤ 144 := h.2.2.2.2.2.2.2
/-- the cells of a rule's place, of a program's place -/
def RS (σ : jS) (q a m : Nat) : Prop := jT σ q = 5 ∧ jR σ 258 q = some a ∧ jT σ a = 20 ∧ jN σ a = 6 * m ∧ jI σ 256 q = nI m ∧ m ≤ 24
theorem RW.rs {σ : jS} {q a m n : Nat} (h : RW σ q a m n) : RS σ q a m := ⟨h.1, h.2.1, h.2.2.1, h.2.2.2.1, h.2.2.2.2.1, h.2.2.2.2.2.2.2⟩
theorem RS.frame {σ σ' : jS} {l : List Nat} {q a m : Nat} (h : RS σ q a m) (f : FR l σ σ') (hq : q ∉ l) : RS σ' q a m := by
  obtain ⟨r1, r2, r3, r4, r5, r6⟩ := h
  exact ⟨by rw [f.1.1]; exact r1, by rw [f.1.2.2.1]; exact r2, by rw [f.1.1]; exact r3, by rw [f.1.2.1]; exact r4, by rw [(f.2 q hq).1]; exact r5, r6⟩
theorem RS.fr256 {σ σ' : jS} {l : List Nat} {q a m : Nat} (h : RS σ q a m) (f : FR l σ σ') (hq : jI σ' 256 q = jI σ 256 q) : RS σ' q a m := by
  obtain ⟨r1, r2, r3, r4, r5, r6⟩ := h
  exact ⟨by rw [f.1.1]; exact r1, by rw [f.1.2.2.1]; exact r2, by rw [f.1.1]; exact r3, by rw [f.1.2.1]; exact r4, by rw [hq]; exact r5, r6⟩
def SLr (σ : jS) (q : Nat) : Prop := RU σ q (q + 1) (q + 2) (q + 3) (q + 4) (q + 5) (q + 6) ∧ RS σ (q + 1) (q + 2) 4 ∧ RS σ (q + 3) (q + 4) 4
def SLp (σ : jS) (q : Nat) : Prop := RS σ q (q + 1) 24
def DJ (cr cp : Nat) (qr qp : Nat → Nat) (nx : Nat) : Prop := (∀ i, i < cr → 81 ≤ qr i ∧ qr i + 7 ≤ nx) ∧ (∀ i, i < cp → 81 ≤ qp i ∧ qp i + 2 ≤ nx) ∧ (∀ i j, i < cr → j < cr → i ≠ j → qr i + 7 ≤ qr j ∨ qr j + 7 ≤ qr i) ∧ (∀ i j, i < cp → j < cp → i ≠ j → qp i + 2 ≤ qp j ∨ qp j + 2 ≤ qp i) ∧ (∀ i j, i < cr → j < cp → qr i + 7 ≤ qp j ∨ qp j + 2 ≤ qr i)
theorem DJ.r {cr cp : Nat} {qr qp : Nat → Nat} {nx : Nat} (h : DJ cr cp qr qp nx) : ∀ i, i < cr → 81 ≤ qr i ∧ qr i + 7 ≤ nx := h.1
theorem DJ.p {cr cp : Nat} {qr qp : Nat → Nat} {nx : Nat} (h : DJ cr cp qr qp nx) : ∀ i, i < cp → 81 ≤ qp i ∧ qp i + 2 ≤ nx := h.2.1
theorem DJ.rr {cr cp : Nat} {qr qp : Nat → Nat} {nx : Nat} (h : DJ cr cp qr qp nx) : ∀ i j, i < cr → j < cr → i ≠ j → qr i + 7 ≤ qr j ∨ qr j + 7 ≤ qr i := h.2.2.1
theorem DJ.pp {cr cp : Nat} {qr qp : Nat → Nat} {nx : Nat} (h : DJ cr cp qr qp nx) : ∀ i j, i < cp → j < cp → i ≠ j → qp i + 2 ≤ qp j ∨ qp j + 2 ≤ qp i := h.2.2.2.1
theorem DJ.rp {cr cp : Nat} {qr qp : Nat → Nat} {nx : Nat} (h : DJ cr cp qr qp nx) : ∀ i j, i < cr → j < cp → qr i + 7 ≤ qp j ∨ qp j + 2 ≤ qr i := h.2.2.2.2
/-- a rule of the class, tried -/
def CRr (σ : jS) (W q : Nat) (a : AR) : Prop := (∃ tp, CR σ W q (q + 1) (q + 2) (q + 3) (q + 4) (q + 5) (q + 6) a.nr a.nm a.hc a.o1 a.o2 tp) ∧ jI σ 327 q = nI a.P ∧ jI σ 328 q = nI a.C ∧ jI σ 329 q = a.ch ∧ (jI σ 331 q = if sndA a then 1 else 0) ∧ (jI σ 332 q = if a.on = true then 1 else 0)
/-- a rule of the reference, tried -/
def MRr (σ : jS) (r : Nat) (a : AR) : Prop := (∃ rg, MR σ r a.nr a.nm a.hc a.o1 a.o2 rg) ∧ jA σ 60 r = nI a.P ∧ jA σ 61 r = nI a.C ∧ (jA σ 63 r = if a.on = true then 1 else 0) ∧ jA σ 64 r = a.ch
def CX (s : AS) (cr cp : Nat) (qr qp : Nat → Nat) (σ : jS) : Prop := (ST σ) ∧ (jI σ 585 16 = nI s.rs.length) ∧ (jI σ 586 16 = nI s.ps.length) ∧ (jI σ 587 16 = nI s.W) ∧ (jI σ 589 16 = s.ap) ∧ (TX σ s.len s.b) ∧ (jI σ 385 43 = nI s.ns) ∧ (∀ k w, k < s.ns → w < 3 → jA σ 44 (3 * k + w) = s.tl k w) ∧ (∃ n, RW σ 30 31 4 n) ∧ (∃ n, RW σ 32 33 4 n) ∧ (∃ n, RW σ 41 42 4 n) ∧ (s.rs.length ≤ cr ∧ cr ≤ 24) ∧ (s.ps.length ≤ cp ∧ cp ≤ 16) ∧ (∀ i, i < cr → jG σ 45 i = some (qr i) ∧ SLr σ (qr i)) ∧ (∀ i, cr ≤ i → i < 24 → jG σ 45 i = none) ∧ (∀ i, i < cp → jG σ 46 i = some (qp i) ∧ SLp σ (qp i)) ∧ (∀ i, cp ≤ i → i < 16 → jG σ 46 i = none) ∧ (DJ cr cp qr qp (jnx σ)) ∧ (∀ i, i < s.rs.length → CRr σ s.W (qr i) (s.rs.getD i ar0)) ∧ (∀ i, i < s.ps.length → RO σ (qp i) (qp i + 1) 24 (s.ps.getD i []))
theorem CX.st {s : AS} {cr cp : Nat} {qr qp : Nat → Nat} {σ : jS} (h : CX s cr cp qr qp σ) : ST σ := h.1
theorem CX.nr {s : AS} {cr cp : Nat} {qr qp : Nat → Nat} {σ : jS} (h : CX s cr cp qr qp σ) : jI σ 585 16 = nI s.rs.length := h.2.1
theorem CX.np {s : AS} {cr cp : Nat} {qr qp : Nat → Nat} {σ : jS} (h : CX s cr cp qr qp σ) : jI σ 586 16 = nI s.ps.length := h.2.2.1
theorem CX.w {s : AS} {cr cp : Nat} {qr qp : Nat → Nat} {σ : jS} (h : CX s cr cp qr qp σ) : jI σ 587 16 = nI s.W := h.2.2.2.1
theorem CX.ap {s : AS} {cr cp : Nat} {qr qp : Nat → Nat} {σ : jS} (h : CX s cr cp qr qp σ) : jI σ 589 16 = s.ap := h.2.2.2.2.1
theorem CX.tx {s : AS} {cr cp : Nat} {qr qp : Nat → Nat} {σ : jS} (h : CX s cr cp qr qp σ) : TX σ s.len s.b := h.2.2.2.2.2.1
theorem CX.ns {s : AS} {cr cp : Nat} {qr qp : Nat → Nat} {σ : jS} (h : CX s cr cp qr qp σ) : jI σ 385 43 = nI s.ns := h.2.2.2.2.2.2.1
theorem CX.tl {s : AS} {cr cp : Nat} {qr qp : Nat → Nat} {σ : jS} (h : CX s cr cp qr qp σ) : ∀ k w, k < s.ns → w < 3 → jA σ 44 (3 * k + w) = s.tl k w := h.2.2.2.2.2.2.2.1
theorem CX.w1 {s : AS} {cr cp : Nat} {qr qp : Nat → Nat} {σ : jS} (h : CX s cr cp qr qp σ) : ∃ n, RW σ 30 31 4 n := h.2.2.2.2.2.2.2.2.1
theorem CX.w2 {s : AS} {cr cp : Nat} {qr qp : Nat → Nat} {σ : jS} (h : CX s cr cp qr qp σ) : ∃ n, RW σ 32 33 4 n := h.2.2.2.2.2.2.2.2.2.1
theorem CX.w3 {s : AS} {cr cp : Nat} {qr qp : Nat → Nat} {σ : jS} (h : CX s cr cp qr qp σ) : ∃ n, RW σ 41 42 4 n := h.2.2.2.2.2.2.2.2.2.2.1
theorem CX.lr {s : AS} {cr cp : Nat} {qr qp : Nat → Nat} {σ : jS} (h : CX s cr cp qr qp σ) : s.rs.length ≤ cr ∧ cr ≤ 24 := h.2.2.2.2.2.2.2.2.2.2.2.1
theorem CX.lp {s : AS} {cr cp : Nat} {qr qp : Nat → Nat} {σ : jS} (h : CX s cr cp qr qp σ) : s.ps.length ≤ cp ∧ cp ≤ 16 := h.2.2.2.2.2.2.2.2.2.2.2.2.1
theorem CX.gr {s : AS} {cr cp : Nat} {qr qp : Nat → Nat} {σ : jS} (h : CX s cr cp qr qp σ) : ∀ i, i < cr → jG σ 45 i = some (qr i) ∧ SLr σ (qr i) := h.2.2.2.2.2.2.2.2.2.2.2.2.2.1
theorem CX.gr0 {s : AS} {cr cp : Nat} {qr qp : Nat → Nat} {σ : jS} (h : CX s cr cp qr qp σ) : ∀ i, cr ≤ i → i < 24 → jG σ 45 i = none := h.2.2.2.2.2.2.2.2.2.2.2.2.2.2.1
theorem CX.gp {s : AS} {cr cp : Nat} {qr qp : Nat → Nat} {σ : jS} (h : CX s cr cp qr qp σ) : ∀ i, i < cp → jG σ 46 i = some (qp i) ∧ SLp σ (qp i) := h.2.2.2.2.2.2.2.2.2.2.2.2.2.2.2.1
theorem CX.gp0 {s : AS} {cr cp : Nat} {qr qp : Nat → Nat} {σ : jS} (h : CX s cr cp qr qp σ) : ∀ i, cp ≤ i → i < 16 → jG σ 46 i = none := h.2.2.2.2.2.2.2.2.2.2.2.2.2.2.2.2.1
theorem CX.dj {s : AS} {cr cp : Nat} {qr qp : Nat → Nat} {σ : jS} (h : CX s cr cp qr qp σ) : DJ cr cp qr qp (jnx σ) := h.2.2.2.2.2.2.2.2.2.2.2.2.2.2.2.2.2.1
theorem CX.rs {s : AS} {cr cp : Nat} {qr qp : Nat → Nat} {σ : jS} (h : CX s cr cp qr qp σ) : ∀ i, i < s.rs.length → CRr σ s.W (qr i) (s.rs.getD i ar0) := h.2.2.2.2.2.2.2.2.2.2.2.2.2.2.2.2.2.2.1
theorem CX.ps {s : AS} {cr cp : Nat} {qr qp : Nat → Nat} {σ : jS} (h : CX s cr cp qr qp σ) : ∀ i, i < s.ps.length → RO σ (qp i) (qp i + 1) 24 (s.ps.getD i []) := h.2.2.2.2.2.2.2.2.2.2.2.2.2.2.2.2.2.2.2
def CM (s : AS) (σ : jS) : Prop := (NV σ) ∧ (jI σ 644 47 = nI s.rs.length) ∧ (jI σ 660 47 = nI s.ps.length) ∧ (jI σ 640 47 = nI s.W) ∧ (jI σ 682 47 = s.ap) ∧ (TM σ s.len s.b) ∧ (jI σ 678 47 = nI s.ns) ∧ (∀ k w, k < s.ns → w < 3 → jA σ (78 + w) k = s.tl k w) ∧ (∀ i, i < s.rs.length → MRr σ i (s.rs.getD i ar0)) ∧ (∀ i, i < s.ps.length → PM σ i (s.ps.getD i []))
theorem CM.nv {s : AS} {σ : jS} (h : CM s σ) : NV σ := h.1
theorem CM.nr {s : AS} {σ : jS} (h : CM s σ) : jI σ 644 47 = nI s.rs.length := h.2.1
theorem CM.np {s : AS} {σ : jS} (h : CM s σ) : jI σ 660 47 = nI s.ps.length := h.2.2.1
theorem CM.w {s : AS} {σ : jS} (h : CM s σ) : jI σ 640 47 = nI s.W := h.2.2.2.1
theorem CM.ap {s : AS} {σ : jS} (h : CM s σ) : jI σ 682 47 = s.ap := h.2.2.2.2.1
theorem CM.tm {s : AS} {σ : jS} (h : CM s σ) : TM σ s.len s.b := h.2.2.2.2.2.1
theorem CM.ns {s : AS} {σ : jS} (h : CM s σ) : jI σ 678 47 = nI s.ns := h.2.2.2.2.2.2.1
theorem CM.tl {s : AS} {σ : jS} (h : CM s σ) : ∀ k w, k < s.ns → w < 3 → jA σ (78 + w) k = s.tl k w := h.2.2.2.2.2.2.2.1
theorem CM.rs {s : AS} {σ : jS} (h : CM s σ) : ∀ i, i < s.rs.length → MRr σ i (s.rs.getD i ar0) := h.2.2.2.2.2.2.2.2.1
theorem CM.ps {s : AS} {σ : jS} (h : CM s σ) : ∀ i, i < s.ps.length → PM σ i (s.ps.getD i []) := h.2.2.2.2.2.2.2.2.2
def sameM (σ σ' : jS) : Prop := (∀ g, jI σ' g 47 = jI σ g 47) ∧ ∀ a i, 48 ≤ a → a ≤ 80 → jA σ' a i = jA σ a i
theorem MT.sm {σ σ' : jS} {k : Nat} {v : Int32} (h : MT σ k v) (f : sameM σ σ') : MT σ' k v := h.frame (f.2 53 k (by decide) (by decide)) (f.2 54 k (by decide) (by decide))
theorem MO.sm {σ σ' : jS} {k : Nat} {o : Nat → Int32} (h : MO σ k o) (f : sameM σ σ') : MO σ' k o := by
  obtain ⟨h1, h2, h3, h4, h5⟩ := h
  exact ⟨by rw [f.2 51 k (by decide) (by decide)]; exact h1, fun j hj => by rw [f.2 52 _ (by decide) (by decide)]; exact h2 j hj, fun hn => (h3 hn).sm f, by rw [f.2 55 k (by decide) (by decide)]; exact h4, fun hn => (h5 hn).sm f⟩
theorem MR.sm {σ σ' : jS} {r nr nm : Nat} {hc : Bool} {o1 o2 : List (Nat → Int32)} {rg : Nat → Int32} (h : MR σ r nr nm hc o1 o2 rg) (f : sameM σ σ') : MR σ' r nr nm hc o1 o2 rg := by
  obtain ⟨h1, h2, h3, h4, h5, h6, h7, h8, h9, h10⟩ := h
  refine ⟨by rw [f.2 50 _ (by decide) (by decide)]; exact h1, by rw [f.2 50 _ (by decide) (by decide)]; exact h2, h3, h4, by rw [f.2 56 _ (by decide) (by decide)]; exact h5, by rw [f.2 57 _ (by decide) (by decide)]; exact h6, by rw [f.2 59 _ (by decide) (by decide)]; exact h7, fun j hj => by rw [f.2 58 _ (by decide) (by decide)]; exact h8 j hj, fun i hi => (h9 i hi).sm f, fun i hi => (h10 i hi).sm f⟩
theorem CM.sm {s : AS} {σ σ' : jS} (h : CM s σ) (f : sameM σ σ') : CM s σ' :=
  ⟨fun k hk => by rw [f.2 70 k (by decide) (by decide)]; exact h.nv k hk,
  by rw [f.1]; exact h.nr,
  by rw [f.1]; exact h.np,
  by rw [f.1]; exact h.w,
  by rw [f.1]; exact h.ap,
  ⟨by rw [f.1]; exact h.tm.1, h.tm.2.1, fun i hi => by rw [f.2 48 i (by decide) (by decide)]; exact h.tm.2.2 i hi⟩,
  by rw [f.1]; exact h.ns,
  fun k w hk hw => by rw [f.2 (78 + w) k (by omega) (by omega)]; exact h.tl k w hk hw,
  fun i hi => by
    obtain ⟨⟨rg, h1⟩, h2, h3, h4, h5⟩ := h.rs i hi
    exact ⟨⟨rg, h1.sm f⟩, by rw [f.2 60 i (by decide) (by decide)]; exact h2, by rw [f.2 61 i (by decide) (by decide)]; exact h3, by rw [f.2 63 i (by decide) (by decide)]; exact h4, by rw [f.2 64 i (by decide) (by decide)]; exact h5⟩,
  fun i hi => by
    obtain ⟨h1, h2, h3⟩ := h.ps i hi
    exact ⟨by rw [f.2 65 i (by decide) (by decide)]; exact h1, h2, fun k j hk hj => by rw [f.2 (66 + j) _ (by omega) (by omega)]; exact h3 k j hk hj⟩⟩
theorem FR.sm {l : List Nat} {σ σ' : jS} (f : FR l σ σ') (hl : ∀ a, 47 ≤ a → a ≤ 80 → a ∉ l) : sameM σ σ' := ⟨fun g => (f.2 47 (hl 47 (by decide) (by decide))).1 g, fun a i h1 h2 => (f.2 a (hl a (by omega) h2)).2 i⟩
/-- the class's cells stand as they stood -/
def sameC (σ σ' : jS) : Prop := jnx σ ≤ jnx σ' ∧ ∀ a, a < jnx σ → (a < 47 ∨ 80 < a) → jT σ' a = jT σ a ∧ jN σ' a = jN σ a ∧ (∀ g, jI σ' g a = jI σ g a) ∧ (∀ g, jR σ' g a = jR σ g a) ∧ (∀ i, jA σ' a i = jA σ a i) ∧ (∀ i, jG σ' a i = jG σ a i)
theorem RW.sc {σ σ' : jS} {q a m n : Nat} (h : RW σ q a m n) (f : sameC σ σ') (hq : q < jnx σ ∧ (q < 47 ∨ 80 < q)) (ha : a < jnx σ ∧ (a < 47 ∨ 80 < a)) : RW σ' q a m n := by
  obtain ⟨r1, r2, r3, r4, r5, r6, r7, r8⟩ := h
  have x := f.2 q hq.1 hq.2
  have y := f.2 a ha.1 ha.2
  exact ⟨by rw [x.1]; exact r1, by rw [x.2.2.2.1]; exact r2, by rw [y.1]; exact r3, by rw [y.2.1]; exact r4, by rw [x.2.2.1]; exact r5, by rw [x.2.2.1]; exact r6, r7, r8⟩
theorem RS.sc {σ σ' : jS} {q a m : Nat} (h : RS σ q a m) (f : sameC σ σ') (hq : q < jnx σ ∧ (q < 47 ∨ 80 < q)) (ha : a < jnx σ ∧ (a < 47 ∨ 80 < a)) : RS σ' q a m := by
  obtain ⟨r1, r2, r3, r4, r5, r6⟩ := h
  have x := f.2 q hq.1 hq.2
  have y := f.2 a ha.1 ha.2
  exact ⟨by rw [x.1]; exact r1, by rw [x.2.2.2.1]; exact r2, by rw [y.1]; exact r3, by rw [y.2.1]; exact r4, by rw [x.2.2.1]; exact r5, r6⟩
theorem RO.sc {σ σ' : jS} {q a m : Nat} {os : List (Nat → Int32)} (h : RO σ q a m os) (f : sameC σ σ') (hq : q < jnx σ ∧ (q < 47 ∨ 80 < q)) (ha : a < jnx σ ∧ (a < 47 ∨ 80 < a)) : RO σ' q a m os :=
  ⟨h.1.sc f hq ha, by rw [(f.2 q hq.1 hq.2).2.2.1]; exact h.2.1, fun i j hi hj => by rw [(f.2 a ha.1 ha.2).2.2.2.2.1]; exact h.2.2 i j hi hj⟩
theorem RU.sc {σ σ' : jS} {q : Nat} (h : RU σ q (q + 1) (q + 2) (q + 3) (q + 4) (q + 5) (q + 6)) (f : sameC σ σ') (h1 : 81 ≤ q) (h2 : q + 7 ≤ jnx σ) : RU σ' q (q + 1) (q + 2) (q + 3) (q + 4) (q + 5) (q + 6) := by
  obtain ⟨u1, u2, u3, u4, u5, u6, u7, u8, u9, u10⟩ := h
  have x := f.2 q (by omega) (by omega)
  have y := f.2 (q + 5) (by omega) (by omega)
  have z := f.2 (q + 6) (by omega) (by omega)
  exact ⟨by rw [x.1]; exact u1, by rw [x.2.2.2.1]; exact u2, by rw [x.2.2.2.1]; exact u3, by rw [x.2.2.2.1]; exact u4, by rw [x.2.2.2.1]; exact u5, by rw [y.1]; exact u6, by rw [y.2.1]; exact u7, by rw [z.1]; exact u8, by rw [z.2.1]; exact u9, u10⟩
theorem CRr.sc {σ σ' : jS} {W q : Nat} {a : AR} (h : CRr σ W q a) (f : sameC σ σ') (h1 : 81 ≤ q) (h2 : q + 7 ≤ jnx σ) : CRr σ' W q a := by
  obtain ⟨⟨tp, ⟨c1, c2, c3, c4, c5, c6, c7, c8, c9⟩⟩, e1, e2, e3, e4, e5⟩ := h
  have x := (f.2 q (by omega) (by omega)).2.2.1
  exact ⟨⟨tp, c1.sc f h1 h2, c2, c3.sc f (by omega) (by omega), c4.sc f (by omega) (by omega), by rw [x]; exact c5, by rw [x]; exact c6, by rw [x]; exact c7, by rw [x]; exact c8, fun k hk => by rw [(f.2 (q + 5) (by omega) (by omega)).2.2.2.2.1]; exact c9 k hk⟩, by rw [x]; exact e1, by rw [x]; exact e2, by rw [x]; exact e3, by rw [x]; exact e4, by rw [x]; exact e5⟩
theorem CX.sc {s : AS} {cr cp : Nat} {qr qp : Nat → Nat} {σ σ' : jS} (hx : 81 ≤ jnx σ) (h : CX s cr cp qr qp σ) (f : sameC σ σ') : CX s cr cp qr qp σ' := by
  have I := fun a (ha : a < 47) => (f.2 a (by omega) (Or.inl ha)).2.2.1
  have A := fun a (ha : a < 47) => (f.2 a (by omega) (Or.inl ha)).2.2.2.2.1
  have G := fun a (ha : a < 47) => (f.2 a (by omega) (Or.inl ha)).2.2.2.2.2
  have dj := h.dj
  have nx := f.1
  refine ⟨⟨fun i hi => by show jA σ' 1 i = _; rw [A 1 (by decide)]; exact h.st.1 i hi, fun i hi => by show jA σ' 2 i = _; rw [A 2 (by decide)]; exact h.st.2 i hi⟩, by rw [I 16 (by decide)]; exact h.nr, by rw [I 16 (by decide)]; exact h.np, by rw [I 16 (by decide)]; exact h.w, by rw [I 16 (by decide)]; exact h.ap, ⟨by rw [I 18 (by decide)]; exact h.tx.1, h.tx.2.1, fun i hi => by rw [A 19 (by decide)]; exact h.tx.2.2 i hi⟩, by rw [I 43 (by decide)]; exact h.ns, fun k w hk hw => by rw [A 44 (by decide)]; exact h.tl k w hk hw, ?_, ?_, ?_, h.lr, h.lp, fun i hi => ?_, fun i h1 h2 => by rw [G 45 (by decide)]; exact h.gr0 i h1 h2, fun i hi => ?_, fun i h1 h2 => by rw [G 46 (by decide)]; exact h.gp0 i h1 h2, ⟨fun i hi => ⟨(dj.r i hi).1, Nat.le_trans (dj.r i hi).2 nx⟩, fun i hi => ⟨(dj.p i hi).1, Nat.le_trans (dj.p i hi).2 nx⟩, dj.rr, dj.pp, dj.rp⟩, fun i hi => ?_, fun i hi => ?_⟩
  · obtain ⟨n, q⟩ := h.w1; exact ⟨n, q.sc f (by omega) (by omega)⟩
  · obtain ⟨n, q⟩ := h.w2; exact ⟨n, q.sc f (by omega) (by omega)⟩
  · obtain ⟨n, q⟩ := h.w3; exact ⟨n, q.sc f (by omega) (by omega)⟩
  · obtain ⟨g1, g2, g3, g4⟩ := h.gr i hi
    have b := dj.r i hi
    exact ⟨by rw [G 45 (by decide)]; exact g1, g2.sc f b.1 b.2, g3.sc f (by omega) (by omega), g4.sc f (by omega) (by omega)⟩
  · obtain ⟨g1, g2⟩ := h.gp i hi
    have b := dj.p i hi
    exact ⟨by rw [G 46 (by decide)]; exact g1, RS.sc g2 f (by omega) (by omega)⟩
  · have b := dj.r i (Nat.lt_of_lt_of_le hi h.lr.1)
    exact (h.rs i hi).sc f b.1 b.2
  · have b := dj.p i (Nat.lt_of_lt_of_le hi h.lp.1)
    exact (h.ps i hi).sc f (by omega) (by omega)
theorem FR.sc {l : List Nat} {σ σ' : jS} (f : FR l σ σ') (hl : ∀ a, a ∈ l → 47 ≤ a ∧ a ≤ 80) : sameC σ σ' := ⟨by rw [f.1.2.2.2.2.1]; exact Nat.le_refl _, fun a _ h => by
  have hn : a ∉ l := fun z => by have := hl a z; omega
  exact ⟨by rw [f.1.1], by rw [f.1.2.1], (f.2 a hn).1, fun g => by rw [f.1.2.2.1], (f.2 a hn).2, fun i => by rw [f.1.2.2.2.1.1]⟩⟩
theorem PF.sc {P : Nat → Nat → Prop} {σ σ' : jS} (f : PF P σ σ') (hP : ∀ a i, P a i → 47 ≤ a ∧ a ≤ 80) : sameC σ σ' := ⟨f.2.1, fun a ha h => by
  have x := f.2.2.2 a ha
  exact ⟨x.1, x.2.1, fun g => x.2.2.2.2.1 g (by omega), x.2.2.1, fun i => x.2.2.2.2.2 i (by omega) (fun z => by have := hP a i z; omega), x.2.2.2.1⟩⟩
