/-! read: what is told so far, purely. z = (NAMES, how many of each and codes, tables, LAWS' ends, PLANS' sits, their rows) -/
abbrev z6_X := nm_X × (Nat → Nat) × (Nat → Nat → Int32) × (Nat → Nat) × (Nat → Nat) × (Nat → Nat → Nat × (Nat → Int32))
def upP (P : Nat → Nat → Int32) (k : Nat) (f : Nat → Int32) : Nat → Nat → Int32 := fun q => if q = k then f else P q
def upS (S : Nat → Nat → Nat × (Nat → Int32)) (k : Nat) (f : Nat → Nat × (Nat → Int32)) : Nat → Nat → Nat × (Nat → Int32) := fun q => if q = k then f else S q
def fiP (B : Nat → Nat) (n : Nat) (N : nm_X) (nf : Nat) (s : s4_X) (R : Nat → Int32) : Nat → Int32 := fun j => if j = 5 * nf + 4 then b01 (foB B n 142 (fi6 B n (fi3 B n (fi2 B n N nf s)))) else if j = 5 * nf + 3 then nI (ivA B n (inA B n 20 (inA B n 20 (fi3 B n (fi2 B n N nf s))))) else if j = 5 * nf + 2 then nI (ivA B n (inA B n 20 (fi3 B n (fi2 B n N nf s)))) else if j = 5 * nf + 1 then nI (ivA B n (fi3 B n (fi2 B n N nf s))) else if j = 5 * nf then b01 (foB B n 135 (fi2 B n N nf s)) else R j
def peP (B : Nat → Nat) (n : Nat) (N : nm_X) (np : Nat) (s : s4_X) (R : Nat → Int32) : Nat → Int32 := fun j => if j = 5 * np + 4 then nI (ivA B n (inA B n 9 (inA B n 9 (inA B n 9 (pe2 B n N np s))))) else if j = 5 * np + 3 then nI (ivA B n (inA B n 9 (inA B n 9 (pe2 B n N np s)))) else if j = 5 * np + 2 then nI (ivA B n (inA B n 9 (pe2 B n N np s))) else if j = 5 * np + 1 then nI (ivA B n (pe2 B n N np s)) else if j = 5 * np then b01 (decide (knF B n s.2.1 = 144)) else R j
def boP (B : Nat → Nat) (n : Nat) (N : nm_X) (nb : Nat) (s : s4_X) (R : Nat → Int32) : Nat → Int32 := fun j => if j = 3 * nb + 2 then boV B n (boU B n (boU B n (bo2 B n N nb s))) else if j = 3 * nb + 1 then boV B n (boU B n (bo2 B n N nb s)) else if j = 3 * nb then boV B n (bo2 B n N nb s) else R j
def teS (B : Nat → Nat) (n : Nat) (s : s4_X) (z : z6_X) : s4_X :=
  if knF B n s.2.1 = 140 then fiS B n z.1 (z.2.1 0) s
  else if knF B n s.2.1 = 143 ∨ knF B n s.2.1 = 144 then peS B n z.1 (z.2.1 1) s
  else if knF B n s.2.1 = 145 then boS B n z.1 (z.2.1 2) s
  else if knF B n s.2.1 = 146 then laS B n z.1 (z.2.1 3) (z.2.2.1 13) (z.2.1 5) s
  else if knF B n s.2.1 = 147 then plS B n z.1 (z.2.1 4) s
  else (1, s.2)
def teZ (B : Nat → Nat) (n : Nat) (s : s4_X) (z : z6_X) : z6_X :=
  if knF B n s.2.1 = 140 then (nwN B n z.1 (pfA (decide (8 ≤ z.2.1 0)) s) 140 (z.2.1 0), updN z.2.1 0 (z.2.1 0 + 1), upP z.2.2.1 10 (fiP B n z.1 (z.2.1 0) s (z.2.2.1 10)), z.2.2.2)
  else if knF B n s.2.1 = 143 ∨ knF B n s.2.1 = 144 then (nwN B n z.1 (pfA (decide (10 ≤ z.2.1 1)) s) 143 (z.2.1 1), updN z.2.1 1 (z.2.1 1 + 1), upP z.2.2.1 11 (peP B n z.1 (z.2.1 1) s (z.2.2.1 11)), z.2.2.2)
  else if knF B n s.2.1 = 145 then (nwN B n z.1 (pfA (decide (4 ≤ z.2.1 2)) s) 145 (z.2.1 2), updN z.2.1 2 (z.2.1 2 + 1), upP z.2.2.1 12 (boP B n z.1 (z.2.1 2) s (z.2.2.1 12)), z.2.2.2)
  else if knF B n s.2.1 = 146 then (nwN B n z.1 (pfA (decide (6 ≤ z.2.1 3)) s) 146 (z.2.1 3), updN (updN z.2.1 3 (z.2.1 3 + 1)) 5 (laX B n z.1 (z.2.1 3) (z.2.2.1 13) (z.2.1 5) s).2.2.2.2.2, upP z.2.2.1 13 (laX B n z.1 (z.2.1 3) (z.2.2.1 13) (z.2.1 5) s).2.2.2.2.1, updN z.2.2.2.1 (z.2.1 3) (laX B n z.1 (z.2.1 3) (z.2.2.1 13) (z.2.1 5) s).2.2.2.2.2, z.2.2.2.2)
  else if knF B n s.2.1 = 147 then (plN B n z.1 (z.2.1 4) s, updN z.2.1 4 (z.2.1 4 + 1), z.2.2.1, z.2.2.2.1, updN z.2.2.2.2.1 (z.2.1 4) (plX B n z.1 (z.2.1 4) s).2, upS z.2.2.2.2.2 (z.2.1 4) (fun k => (plR B n z.1 (z.2.1 4) s k).2))
  else z
def sum_X (c : Nat → Nat) : Nat := c 0 + c 1 + c 2 + c 3 + c 4
/-- the class's store says z -/
def cz (B : Nat → Nat) (n : Nat) (I : st_I) (L : st_L) (z : z6_X) : Prop := cN B n I L z.1 ∧ (∀ j, j < 5 → I 9 j = nI (z.2.1 j)) ∧ I 17 18 = nI (z.2.1 5) ∧ (∀ j, j < 5 * z.2.1 0 → I 10 j = z.2.2.1 10 j) ∧ (∀ j, j < 5 * z.2.1 1 → I 11 j = z.2.2.1 11 j) ∧ (∀ j, j < 3 * z.2.1 2 → I 12 j = z.2.2.1 12 j) ∧ (∀ j, j < z.2.1 5 → I 13 j = z.2.2.1 13 j) ∧ (∀ w, w < z.2.1 3 → I 14 w = nI (z.2.2.2.1 w)) ∧ ∀ q, q < z.2.1 4 → I 15 q = nI (z.2.2.2.2.1 q) ∧ ∀ k, k < z.2.2.2.2.1 q → cR I ((q * 12 + k) * 10) (z.2.2.2.2.2 q k).1 (z.2.2.2.2.2 q k).2
/-- what z itself keeps, t TOKENS gone over -/
def zk (z : z6_X) (t : Nat) : Prop := (z.2.1 0 ≤ 8 ∧ z.2.1 1 ≤ 10 ∧ z.2.1 2 ≤ 4 ∧ z.2.1 3 ≤ 6 ∧ z.2.1 4 ≤ 4) ∧ z.1.1 ≤ sum_X z.2.1 ∧ (∀ j, j < z.1.1 → soK (z.1.2.2.1 j)) ∧ z.2.1 5 ≤ t ∧ ∀ q, q < z.2.1 4 → z.2.2.2.2.1 q ≤ 12 ∧ ∀ k, k < z.2.2.2.2.1 q → (z.2.2.2.2.2 q k).1 ≤ 6
theorem so_31 {k : Nat} (h : soK k) : k < 2 ^ 31 := by rcases h with h | h | h | h | h <;> omega
theorem zk.so {z : z6_X} {t : Nat} (H : zk z t) : ∀ j, j < z.1.1 → z.1.2.2.1 j < 2 ^ 31 := fun j hj => so_31 (H.2.2.1 j hj)
/-- frame of a tell in the class -/
def xte (I J : st_I) : Prop := (∀ q, q < 9 ∨ (17 < q ∧ q < 22) ∨ 24 < q → J q = I q) ∧ ∀ j, j < 6 → J 17 j = I 17 j
theorem xte.rf {I : st_I} : xte I I := ⟨fun _ _ => rfl, fun _ _ => rfl⟩
theorem xte.tr {I J K : st_I} (h : xte I J) (g : xte J K) : xte I K := ⟨fun q a => (g.1 q a).trans (h.1 q a), fun j a => (g.2 j a).trans (h.2 j a)⟩
theorem xt.xte {a b : Nat} {I J : st_I} (h : xt a b I J) (ha : 9 ≤ a) (ha2 : a ≤ 16) : xte I J := ⟨fun q c => h.1 q (by omega) (by omega) (by omega) (by omega) (by omega), fun j c => h.2.2 j (by omega)⟩
theorem xl.xte {I J : st_I} (h : xl I J) : xte I J := ⟨fun q c => h.1 q (by omega) (by omega) (by omega) (by omega) (by omega) (by omega) (by omega), fun j c => h.2.2 j (by omega)⟩
theorem xpl.xte {k : Nat} {I J : st_I} (h : xpl k I J) : xte I J := ⟨fun q c => h.1 q (by omega) (by omega) (by omega) (by omega) (by omega) (by omega), fun j c => h.2.2.1 j (by omega)⟩
/-- the sits' rows stay where their tables do -/
theorem cz_sits {I J : st_I} {c : Nat} {S : Nat → Nat} {R : Nat → Nat → Nat × (Nat → Int32)} (h : ∀ q, q < c → I 15 q = nI (S q) ∧ ∀ k, k < S q → cR I ((q * 12 + k) * 10) (R q k).1 (R q k).2) (e15 : J 15 = I 15) (e16 : J 16 = I 16) : ∀ q, q < c → J 15 q = nI (S q) ∧ ∀ k, k < S q → cR J ((q * 12 + k) * 10) (R q k).1 (R q k).2 := by
  intro q hq
  unfold cR
  rw [e15, e16]; exact h q hq
