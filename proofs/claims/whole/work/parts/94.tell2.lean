/-! read: a tell, in the class -/
theorem updN_at {c : Nat → Nat} {k x : Nat} : updN c k x k = x := by simp [updN]
theorem updN_no {c : Nat → Nat} {k x j : Nat} (h : j ≠ k) : updN c k x j = c j := by unfold updN; rw [if_neg h]
theorem upP_at {P : Nat → Nat → Int32} {k : Nat} {f : Nat → Int32} : upP P k f k = f := by simp [upP]
theorem upP_no {P : Nat → Nat → Int32} {k q : Nat} {f : Nat → Int32} (h : q ≠ k) : upP P k f q = P q := by unfold upP; rw [if_neg h]
theorem upS_at {S : Nat → Nat → Nat × (Nat → Int32)} {k : Nat} {f : Nat → Nat × (Nat → Int32)} : upS S k f k = f := by simp [upS]
theorem upS_no {S : Nat → Nat → Nat × (Nat → Int32)} {k q : Nat} {f : Nat → Nat × (Nat → Int32)} (h : q ≠ k) : upS S k f q = S q := by unfold upS; rw [if_neg h]
theorem zk_32 {z : z6_X} {t j : Nat} (K : zk z t) (h : (j = 0 ∧ z.2.1 0 < 8) ∨ (j = 1 ∧ z.2.1 1 < 10) ∨ (j = 2 ∧ z.2.1 2 < 4) ∨ (j = 3 ∧ z.2.1 3 < 6) ∨ (j = 4 ∧ z.2.1 4 < 4)) : z.1.1 < 32 := by
  obtain ⟨⟨k1, k2, k3, k4, k5⟩, k6, -⟩ := K
  unfold sum_X at k6
  omega
theorem x_tell {d : Nat} {B : Nat → Nat} {n : Nat} {I : st_I} {L : st_L} {s : s4_X} {z : z6_X} {F : st_I → st_L → Prop} (H : cx B n I s) (hs : s.1 = 0) (Z : cz B n I L z) (K : zk z s.2.1) (h : ∀ J M, cx B n J (teS B n s z) → xte I J → (∀ q, q ≠ 21 → M q = L q) → ((teS B n s z).1 = 0 → cz B n J M (teZ B n s z)) → F J M) : EV (d + 6) mX5_takeTell [.ref 17] I L F := by
  obtain ⟨l1, l2, l3, l4, l5, l6⟩ := H.lt
  obtain ⟨z1, z2, z3, z4, z5, z6, z7, z8, z9⟩ := id Z
  obtain ⟨⟨k1, k2, k3, k4, k5⟩, k6, k7, k8, k9⟩ := id K
  refine sgX5_takeTell_0 ?_
  rw [l3, nI_clamp (by omega), l4]
  refine ⟨l2, ?_⟩
  have ne : ∀ k, k < 2 ^ 31 → ¬ knF B n s.2.1 = k → ¬ nI (knF B n s.2.1) = nI k := fun k hk q c => q ((nI_eq (by omega) hk).mp c)
  unfold teS teZ at h
  by_cases c1 : knF B n s.2.1 = 140
  · rw [if_pos c1, if_pos c1] at h
    rw [if_pos (by rw [c1]; rfl)]
    refine x_fiddle H z1 (fun q => zk_32 (j := 0) K (Or.inl ⟨rfl, q⟩)) (z2 0 (by decide)) k1 hs c1 (fun J M a b c e => h J M a (b.xte (by decide) (by decide)) c (fun y => ?_))
    obtain ⟨f1, f2, f3, f4, f5, f6, f7, f8, f9⟩ := e y
    have fr : ∀ q, q ≠ 9 → q ≠ 10 → q ≠ 17 → q ≠ 22 → q ≠ 23 → J q = I q := b.1
    refine ⟨f2, fun j hj => ?_, ?_, fun j hj => ?_, ?_, ?_, ?_, ?_, cz_sits z9 (fr 15 (by decide) (by decide) (by decide) (by decide) (by decide)) (fr 16 (by decide) (by decide) (by decide) (by decide) (by decide))⟩
    · show J 9 j = nI (updN z.2.1 0 (z.2.1 0 + 1) j)
      by_cases j0 : j = 0
      · rw [j0, updN_at]; exact f3
      · rw [updN_no j0, b.2.1 j j0]; exact z2 j hj
    · show J 17 18 = nI (updN z.2.1 0 (z.2.1 0 + 1) 5)
      rw [updN_no (by decide), b.2.2 18 (by omega)]; exact z3
    · show J 10 j = upP z.2.2.1 10 (fiP B n z.1 (z.2.1 0) s (z.2.2.1 10)) 10 j
      have hj' : j < 5 * (z.2.1 0 + 1) := by have hj2 : j < 5 * updN z.2.1 0 (z.2.1 0 + 1) 0 := hj; rw [updN_at] at hj2; exact hj2
      rw [upP_at]
      unfold fiP
      by_cases e4 : j = 5 * z.2.1 0 + 4
      · rw [if_pos e4, e4]; exact f9
      rw [if_neg e4]
      by_cases e3 : j = 5 * z.2.1 0 + 3
      · rw [if_pos e3, e3]; exact f8
      rw [if_neg e3]
      by_cases e2 : j = 5 * z.2.1 0 + 2
      · rw [if_pos e2, e2]; exact f7
      rw [if_neg e2]
      by_cases e1 : j = 5 * z.2.1 0 + 1
      · rw [if_pos e1, e1]; exact f6
      rw [if_neg e1]
      by_cases e0 : j = 5 * z.2.1 0
      · rw [if_pos e0, e0]; exact f5
      rw [if_neg e0, f4 j (by omega)]; exact z4 j (by omega)
    · intro j hj
      rw [fr 11 (by decide) (by decide) (by decide) (by decide) (by decide)]; exact z5 j hj
    · intro j hj
      rw [fr 12 (by decide) (by decide) (by decide) (by decide) (by decide)]; exact z6 j hj
    · intro j hj
      rw [fr 13 (by decide) (by decide) (by decide) (by decide) (by decide)]; exact z7 j hj
    · intro j hj
      rw [fr 14 (by decide) (by decide) (by decide) (by decide) (by decide)]; exact z8 j hj
  rw [if_neg c1, if_neg c1] at h
  rw [if_neg (by exact ne 140 (by decide) c1)]
  by_cases c2 : knF B n s.2.1 = 143 ∨ knF B n s.2.1 = 144
  · rw [if_pos c2, if_pos c2] at h
    have go : EV (d + 5) mX5_takePerson [.ref 17, .int (b01 (decide (knF B n s.2.1 = 144)))] I L F := by
      refine x_person H z1 (fun q => zk_32 (j := 1) K (Or.inr (Or.inl ⟨rfl, q⟩))) (z2 1 (by decide)) k2 hs (by omega) (fun J M a b c e => h J M a (b.xte (by decide) (by decide)) c (fun y => ?_))
      obtain ⟨f1, f2, f3, f4, f5, f6, f7, f8, f9⟩ := e y
      have fr : ∀ q, q ≠ 9 → q ≠ 11 → q ≠ 17 → q ≠ 22 → q ≠ 23 → J q = I q := b.1
      refine ⟨f2, fun j hj => ?_, ?_, ?_, fun j hj => ?_, ?_, ?_, ?_, cz_sits z9 (fr 15 (by decide) (by decide) (by decide) (by decide) (by decide)) (fr 16 (by decide) (by decide) (by decide) (by decide) (by decide))⟩
      · show J 9 j = nI (updN z.2.1 1 (z.2.1 1 + 1) j)
        by_cases j0 : j = 1
        · rw [j0, updN_at]; exact f3
        · rw [updN_no j0, b.2.1 j j0]; exact z2 j hj
      · show J 17 18 = nI (updN z.2.1 1 (z.2.1 1 + 1) 5)
        rw [updN_no (by decide), b.2.2 18 (by omega)]; exact z3
      · intro j hj
        rw [fr 10 (by decide) (by decide) (by decide) (by decide) (by decide)]; exact z4 j hj
      · show J 11 j = upP z.2.2.1 11 (peP B n z.1 (z.2.1 1) s (z.2.2.1 11)) 11 j
        have hj' : j < 5 * (z.2.1 1 + 1) := by have hj2 : j < 5 * updN z.2.1 1 (z.2.1 1 + 1) 1 := hj; rw [updN_at] at hj2; exact hj2
        rw [upP_at]
        unfold peP
        by_cases e4 : j = 5 * z.2.1 1 + 4
        · rw [if_pos e4, e4]; exact f9
        rw [if_neg e4]
        by_cases e3 : j = 5 * z.2.1 1 + 3
        · rw [if_pos e3, e3]; exact f8
        rw [if_neg e3]
        by_cases e2 : j = 5 * z.2.1 1 + 2
        · rw [if_pos e2, e2]; exact f7
        rw [if_neg e2]
        by_cases e1 : j = 5 * z.2.1 1 + 1
        · rw [if_pos e1, e1]; exact f6
        rw [if_neg e1]
        by_cases e0 : j = 5 * z.2.1 1
        · rw [if_pos e0, e0]; exact f5
        rw [if_neg e0, f4 j (by omega)]; exact z5 j (by omega)
      · intro j hj
        rw [fr 12 (by decide) (by decide) (by decide) (by decide) (by decide)]; exact z6 j hj
      · intro j hj
        rw [fr 13 (by decide) (by decide) (by decide) (by decide) (by decide)]; exact z7 j hj
      · intro j hj
        rw [fr 14 (by decide) (by decide) (by decide) (by decide) (by decide)]; exact z8 j hj
    rcases c2 with c2 | c2
    · rw [if_pos (by rw [c2]; rfl)]
      rw [decide_eq_false (by omega)] at go
      exact go
    · rw [if_neg (by exact ne 143 (by decide) (by omega)), if_pos (by rw [c2]; rfl)]
      rw [decide_eq_true c2] at go
      exact go
  rw [if_neg c2, if_neg c2] at h
  rw [if_neg (by exact ne 143 (by decide) (fun q => c2 (Or.inl q))), if_neg (by exact ne 144 (by decide) (fun q => c2 (Or.inr q)))]
  by_cases c3 : knF B n s.2.1 = 145
  · rw [if_pos c3, if_pos c3] at h
    rw [if_pos (by rw [c3]; rfl)]
    refine x_bow H z1 (fun q => zk_32 (j := 2) K (Or.inr (Or.inr (Or.inl ⟨rfl, q⟩)))) (z2 2 (by decide)) k3 hs (by omega) (fun J M a b c e => h J M a (b.xte (by decide) (by decide)) c (fun y => ?_))
    obtain ⟨f1, f2, f3, f4, f5, f6, f7⟩ := e y
    have fr : ∀ q, q ≠ 9 → q ≠ 12 → q ≠ 17 → q ≠ 22 → q ≠ 23 → J q = I q := b.1
    refine ⟨f2, fun j hj => ?_, ?_, ?_, ?_, fun j hj => ?_, ?_, ?_, cz_sits z9 (fr 15 (by decide) (by decide) (by decide) (by decide) (by decide)) (fr 16 (by decide) (by decide) (by decide) (by decide) (by decide))⟩
    · show J 9 j = nI (updN z.2.1 2 (z.2.1 2 + 1) j)
      by_cases j0 : j = 2
      · rw [j0, updN_at]; exact f3
      · rw [updN_no j0, b.2.1 j j0]; exact z2 j hj
    · show J 17 18 = nI (updN z.2.1 2 (z.2.1 2 + 1) 5)
      rw [updN_no (by decide), b.2.2 18 (by omega)]; exact z3
    · intro j hj
      rw [fr 10 (by decide) (by decide) (by decide) (by decide) (by decide)]; exact z4 j hj
    · intro j hj
      rw [fr 11 (by decide) (by decide) (by decide) (by decide) (by decide)]; exact z5 j hj
    · show J 12 j = upP z.2.2.1 12 (boP B n z.1 (z.2.1 2) s (z.2.2.1 12)) 12 j
      have hj' : j < 3 * (z.2.1 2 + 1) := by have hj2 : j < 3 * updN z.2.1 2 (z.2.1 2 + 1) 2 := hj; rw [updN_at] at hj2; exact hj2
      rw [upP_at]
      unfold boP
      by_cases e2 : j = 3 * z.2.1 2 + 2
      · rw [if_pos e2, e2]; exact f7
      rw [if_neg e2]
      by_cases e1 : j = 3 * z.2.1 2 + 1
      · rw [if_pos e1, e1]; exact f6
      rw [if_neg e1]
      by_cases e0 : j = 3 * z.2.1 2
      · rw [if_pos e0, e0]; exact f5
      rw [if_neg e0, f4 j (by omega)]; exact z6 j (by omega)
    · intro j hj
      rw [fr 13 (by decide) (by decide) (by decide) (by decide) (by decide)]; exact z7 j hj
    · intro j hj
      rw [fr 14 (by decide) (by decide) (by decide) (by decide) (by decide)]; exact z8 j hj
  rw [if_neg c3, if_neg c3] at h
  rw [if_neg (by exact ne 145 (by decide) c3)]
  by_cases c4 : knF B n s.2.1 = 146
  · rw [if_pos c4, if_pos c4] at h
    rw [if_pos (by rw [c4]; rfl)]
    refine x_law (c := z.2.1 5) (C := z.2.2.1 13) H z1 (fun q => zk_32 (j := 3) K (Or.inr (Or.inr (Or.inr (Or.inl ⟨rfl, q⟩))))) (z2 3 (by decide)) k4 hs (by omega) k8 z3 z7 (fun J M a b c e => h J M a b.xte c (fun y => ?_))
    obtain ⟨f1, f2, f3, f4, f5, f6, f7⟩ := e y
    have fr : ∀ q, q ≠ 9 → q ≠ 13 → q ≠ 14 → q ≠ 17 → q ≠ 22 → q ≠ 23 → q ≠ 24 → J q = I q := b.1
    refine ⟨f2, fun j hj => ?_, ?_, ?_, ?_, ?_, fun j hj => ?_, fun w hw => ?_, cz_sits z9 (fr 15 (by decide) (by decide) (by decide) (by decide) (by decide) (by decide) (by decide)) (fr 16 (by decide) (by decide) (by decide) (by decide) (by decide) (by decide) (by decide))⟩
    · show J 9 j = nI (updN (updN z.2.1 3 (z.2.1 3 + 1)) 5 (laX B n z.1 (z.2.1 3) (z.2.2.1 13) (z.2.1 5) s).2.2.2.2.2 j)
      rw [updN_no (by omega)]
      by_cases j0 : j = 3
      · rw [j0, updN_at]; exact f3
      · rw [updN_no j0, b.2.1 j j0]; exact z2 j hj
    · show J 17 18 = nI (updN (updN z.2.1 3 (z.2.1 3 + 1)) 5 (laX B n z.1 (z.2.1 3) (z.2.2.1 13) (z.2.1 5) s).2.2.2.2.2 5)
      rw [updN_at]; exact f6
    · intro j hj
      rw [fr 10 (by decide) (by decide) (by decide) (by decide) (by decide) (by decide) (by decide)]; exact z4 j hj
    · intro j hj
      rw [fr 11 (by decide) (by decide) (by decide) (by decide) (by decide) (by decide) (by decide)]; exact z5 j hj
    · intro j hj
      rw [fr 12 (by decide) (by decide) (by decide) (by decide) (by decide) (by decide) (by decide)]; exact z6 j hj
    · show J 13 j = upP z.2.2.1 13 (laX B n z.1 (z.2.1 3) (z.2.2.1 13) (z.2.1 5) s).2.2.2.2.1 13 j
      rw [upP_at]
      have hj' : j < (laX B n z.1 (z.2.1 3) (z.2.2.1 13) (z.2.1 5) s).2.2.2.2.2 := by have hj2 : j < updN (updN z.2.1 3 (z.2.1 3 + 1)) 5 (laX B n z.1 (z.2.1 3) (z.2.2.1 13) (z.2.1 5) s).2.2.2.2.2 5 := hj; rw [updN_at] at hj2; exact hj2
      exact f7 j hj'
    · show J 14 w = nI (updN z.2.2.2.1 (z.2.1 3) (laX B n z.1 (z.2.1 3) (z.2.2.1 13) (z.2.1 5) s).2.2.2.2.2 w)
      have hw' : w < z.2.1 3 + 1 := by
        have hw2 : w < updN (updN z.2.1 3 (z.2.1 3 + 1)) 5 (laX B n z.1 (z.2.1 3) (z.2.2.1 13) (z.2.1 5) s).2.2.2.2.2 3 := hw
        rw [updN_no (by decide), updN_at] at hw2; exact hw2
      by_cases w0 : w = z.2.1 3
      · rw [w0, updN_at]; exact f5
      · rw [updN_no w0, f4 w w0]; exact z8 w (by omega)
  rw [if_neg c4, if_neg c4] at h
  rw [if_neg (by exact ne 146 (by decide) c4)]
  by_cases c5 : knF B n s.2.1 = 147
  · rw [if_pos c5, if_pos c5] at h
    rw [if_pos (by rw [c5]; rfl)]
    refine x_plan H z1 (fun q => zk_32 (j := 4) K (Or.inr (Or.inr (Or.inr (Or.inr ⟨rfl, q⟩))))) K.so (z2 4 (by decide)) k5 hs (by omega) (fun J M a b c e => h J M a b.xte c (fun y => ?_))
    obtain ⟨f1, f2, f3, f4, f5, f6⟩ := e y
    have fr : ∀ q, q ≠ 9 → q ≠ 15 → q ≠ 16 → q ≠ 17 → q ≠ 22 → q ≠ 23 → J q = I q := b.1
    refine ⟨f2, fun j hj => ?_, ?_, ?_, ?_, ?_, ?_, ?_, fun q hq => ?_⟩
    · show J 9 j = nI (updN z.2.1 4 (z.2.1 4 + 1) j)
      by_cases j0 : j = 4
      · rw [j0, updN_at]; exact f3
      · rw [updN_no j0, b.2.1 j j0]; exact z2 j hj
    · show J 17 18 = nI (updN z.2.1 4 (z.2.1 4 + 1) 5)
      rw [updN_no (by decide), b.2.2.1 18 (by omega)]; exact z3
    · intro j hj
      rw [fr 10 (by decide) (by decide) (by decide) (by decide) (by decide) (by decide)]; exact z4 j hj
    · intro j hj
      rw [fr 11 (by decide) (by decide) (by decide) (by decide) (by decide) (by decide)]; exact z5 j hj
    · intro j hj
      rw [fr 12 (by decide) (by decide) (by decide) (by decide) (by decide) (by decide)]; exact z6 j hj
    · intro j hj
      rw [fr 13 (by decide) (by decide) (by decide) (by decide) (by decide) (by decide)]; exact z7 j hj
    · intro j hj
      rw [fr 14 (by decide) (by decide) (by decide) (by decide) (by decide) (by decide)]; exact z8 j hj
    · show J 15 q = nI (updN z.2.2.2.2.1 (z.2.1 4) (plX B n z.1 (z.2.1 4) s).2 q) ∧ ∀ k, k < updN z.2.2.2.2.1 (z.2.1 4) (plX B n z.1 (z.2.1 4) s).2 q → cR J ((q * 12 + k) * 10) (upS z.2.2.2.2.2 (z.2.1 4) (fun k => (plR B n z.1 (z.2.1 4) s k).2) q k).1 (upS z.2.2.2.2.2 (z.2.1 4) (fun k => (plR B n z.1 (z.2.1 4) s k).2) q k).2
      have hq' : q < z.2.1 4 + 1 := by have hq2 : q < updN z.2.1 4 (z.2.1 4 + 1) 4 := hq; rw [updN_at] at hq2; exact hq2
      by_cases q0 : q = z.2.1 4
      · rw [q0, updN_at, upS_at]; exact ⟨f5, f6⟩
      · rw [updN_no q0, upS_no q0, b.2.2.2.1 q q0]
        obtain ⟨g1, g2⟩ := z9 q (by omega)
        obtain ⟨u1, u2⟩ := k9 q (by omega)
        refine ⟨g1, fun k hk => ?_⟩
        obtain ⟨v1, v2⟩ := g2 k hk
        have m6 := u2 k hk
        exact ⟨by rw [b.2.2.2.2 _ (by omega)]; exact v1, fun j hj hj3 => by rw [b.2.2.2.2 _ (by omega)]; exact v2 j hj hj3⟩
  rw [if_neg c5, if_neg c5] at h
  rw [if_neg (by exact ne 147 (by decide) c5)]
  exact h _ L (cx_dead (f := 1) H (by decide)) ⟨fun q a => by rw [u_I_ne _ _ (by omega)], fun j a => by simp only [u_I, if_true]; rw [if_neg (by omega)]⟩ (fun _ _ => rfl) (fun q => absurd (show (1 : Nat) = 0 from q) (by decide))
