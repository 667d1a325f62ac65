/-! read: what is told keeps its shape -/
theorem exL_mo {B : Nat → Nat} {n : Nat} : ∀ r due s e, s.2.1 ≤ (exL B n r due s e).1.2.1
  | 0, _, _, _ => Nat.le_refl _
  | r + 1, due, s, e => by
    rw [exL]
    split
    · split
      · exact stE_mo
      · exact Nat.le_trans stE_mo (exL_mo r _ _ _)
    · exact Nat.le_refl _
theorem te_mo {B : Nat → Nat} {n : Nat} {s : s4_X} {z : z6_X} (h : (teS B n s z).1 = 0) : s.2.1 < (teS B n s z).2.1 := by
  unfold teS at h ⊢
  split
  · next k =>
    rw [if_pos k] at h
    unfold fiS at h ⊢
    split
    · next c => exact Nat.lt_of_lt_of_le (pf_mo1 c) (Nat.le_trans nw_mo (Nat.le_trans fi3_mo (Nat.le_trans in_mo (Nat.le_trans in_mo (Nat.le_trans in_mo (Nat.le_trans pi_mo st_mo))))))
    · next c => rw [if_neg c] at h; exact absurd h c
  next k1 =>
  rw [if_neg k1] at h
  split
  · next k =>
    rw [if_pos k] at h
    unfold peS at h ⊢
    split
    · next c => exact Nat.lt_of_lt_of_le (pf_mo1 c) (Nat.le_trans nw_mo (Nat.le_trans in_mo (Nat.le_trans in_mo (Nat.le_trans in_mo (Nat.le_trans in_mo st_mo)))))
    · next c => rw [if_neg c] at h; exact absurd h c
  next k2 =>
  rw [if_neg k2] at h
  split
  · next k =>
    rw [if_pos k] at h
    unfold boS at h ⊢
    split
    · next c => exact Nat.lt_of_lt_of_le (pf_mo1 c) (Nat.le_trans nw_mo (Nat.le_trans bo_mo (Nat.le_trans bo_mo (Nat.le_trans bo_mo st_mo))))
    · next c => rw [if_neg c] at h; exact absurd h c
  next k3 =>
  rw [if_neg k3] at h
  split
  · next k =>
    rw [if_pos k] at h
    unfold laS at h ⊢
    split
    · next c => exact Nat.lt_of_lt_of_le (pf_mo1 c) (Nat.le_trans nw_mo (Nat.le_trans st_mo (Nat.le_trans (exL_mo 402 true _ _) st_mo)))
    · next c => rw [if_neg c] at h; exact absurd h c
  next k4 =>
  rw [if_neg k4] at h
  split
  · next k =>
    rw [if_pos k] at h
    unfold plS at h ⊢
    split
    · next c => exact Nat.lt_of_lt_of_le (pf_mo1 c) (Nat.le_trans nw_mo (Nat.le_trans st_mo (Nat.le_trans (sl_mo 13 _ 0) st_mo)))
    · next c => rw [if_neg c] at h; exact absurd h c
  next k5 =>
  rw [if_neg k5] at h
  exact absurd (show (1 : Nat) = 0 from h) (by decide)
theorem te_nofull {B : Nat → Nat} {n : Nat} {s : s4_X} {z : z6_X} (hs : s.1 = 0) (h : (teS B n s z).1 = 0) : ¬ full_X B n s z.2.1 := fun c => by
  rw [te_full hs c] at h; exact absurd (show (2 : Nat) = 0 from h) (by decide)
def lawP (z : z6_X) : Prop := z.2.1 5 = lsF z.2.2.2.1 (z.2.1 3) ∧ ∀ w, w < z.2.1 3 → lsF z.2.2.2.1 w ≤ z.2.2.2.1 w ∧ z.2.2.2.1 w ≤ z.2.1 5 ∧ rp_dep (z.2.2.1 13) (lsF z.2.2.2.1 w) (z.2.2.2.1 w - lsF z.2.2.2.1 w) = some 1
def rowP (z : z6_X) : Prop := (∀ f, f < z.2.1 0 → bo (z.2.2.1 10 (5 * f)) ∧ bo (z.2.2.1 10 (5 * f + 4))) ∧ ∀ p, p < z.2.1 1 → bo (z.2.2.1 11 (5 * p))
def sitP (z : z6_X) (lf : Nat) : Prop := ∀ q, q < z.2.1 4 → ∀ k, k < z.2.2.2.2.1 q → (1 ≤ (z.2.2.2.2.2 q k).1 ∧ bo ((z.2.2.2.2.2 q k).2 2)) ∧ (lf = 0 → (∃ pp, pp < z.2.1 1 ∧ (z.2.2.2.2.2 q k).2 0 = nI pp) ∧ (∃ bb, bb < z.2.1 2 ∧ (z.2.2.2.2.2 q k).2 1 = nI bb) ∧ ∀ i, i < (z.2.2.2.2.2 q k).1 → ∃ ff, ff < z.2.1 0 ∧ (z.2.2.2.2.2 q k).2 (4 + i) = nI ff)
def zl (z : z6_X) (t lf : Nat) : Prop := zk z t ∧ lawP z ∧ rowP z ∧ nr_X z.1 (z.2.1 0) (z.2.1 1) (z.2.1 2) ∧ sitP z lf
theorem sitP.up {z z' : z6_X} {lf lf' : Nat} (H : sitP z lf) (h4 : z'.2.1 4 = z.2.1 4) (hS : z'.2.2.2.2 = z.2.2.2.2) (h0 : z.2.1 0 ≤ z'.2.1 0) (h1 : z.2.1 1 ≤ z'.2.1 1) (h2 : z.2.1 2 ≤ z'.2.1 2) (hl : lf' = 0 → lf = 0) : sitP z' lf' := by
  intro q hq
  rw [h4] at hq
  rw [hS]
  intro k hk
  obtain ⟨a, b⟩ := H q hq k hk
  refine ⟨a, fun c => ?_⟩
  obtain ⟨⟨pp, p1, p2⟩, ⟨bb, b1, b2⟩, g⟩ := b (hl c)
  exact ⟨⟨pp, by omega, p2⟩, ⟨bb, by omega, b2⟩, fun i hi => by obtain ⟨ff, f1, f2⟩ := g i hi; exact ⟨ff, by omega, f2⟩⟩
theorem nr_nw {B : Nat → Nat} {n so wh c0 c1 c2 c0' c1' c2' : Nat} {N : nm_X} {s : s4_X} (H : nr_X N c0 c1 c2) (h0 : c0 ≤ c0') (h1 : c1 ≤ c1') (h2 : c2 ≤ c2') (a0 : so = 140 → wh < c0') (a1 : so = 143 → wh < c1') (a2 : so = 145 → wh < c2') : nr_X (nwN B n N s so wh) c0' c1' c2' := by
  intro j hj
  unfold nwN at hj ⊢
  split
  · next c =>
    rw [if_pos c] at hj
    have hj' : j < N.1 + 1 := hj
    by_cases e : j = N.1
    · simp only [pushN, if_pos e]; exact ⟨a0, a1, a2⟩
    · simp only [pushN, if_neg e]
      obtain ⟨x, y, w⟩ := H j (by omega)
      exact ⟨fun q => by have := x q; omega, fun q => by have := y q; omega, fun q => by have := w q; omega⟩
  · next c =>
    rw [if_neg c] at hj
    obtain ⟨x, y, w⟩ := H j hj
    exact ⟨fun q => by have := x q; omega, fun q => by have := y q; omega, fun q => by have := w q; omega⟩
theorem nw_n {B : Nat → Nat} {n so wh : Nat} {N : nm_X} {s : s4_X} : (nwN B n N s so wh).1 ≤ N.1 + 1 := by
  unfold nwN; split
  · exact Nat.le_refl _
  · exact Nat.le_succ _
theorem nw_sok {B : Nat → Nat} {n so wh : Nat} {N : nm_X} {s : s4_X} (h : ∀ j, j < N.1 → soK (N.2.2.1 j)) (hs : soK so) : ∀ j, j < (nwN B n N s so wh).1 → soK ((nwN B n N s so wh).2.2.1 j) := by
  intro j hj
  unfold nwN at hj ⊢
  split
  · next c =>
    rw [if_pos c] at hj
    have hj' : j < N.1 + 1 := hj
    by_cases e : j = N.1
    · simp only [pushN, if_pos e]; exact hs
    · simp only [pushN, if_neg e]; exact h j (by omega)
  · next c => rw [if_neg c] at hj; exact h j hj
theorem updN_ge {c : Nat → Nat} {k j : Nat} : c j ≤ updN c k (c k + 1) j := by
  by_cases e : j = k
  · rw [e, updN_at]; omega
  · rw [updN_no e]; exact Nat.le_refl _
