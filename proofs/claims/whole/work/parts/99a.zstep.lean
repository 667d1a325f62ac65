/-! read: one tell more keeps it all -/
theorem lsF_up {E : Nat → Nat} {c x w : Nat} (h : w ≤ c) : lsF (updN E c x) w = lsF E w := by
  unfold lsF
  split
  · rfl
  · rw [updN_no (by omega)]
theorem lawP.cg {z z' : z6_X} (H : lawP z) (h3 : z'.2.1 3 = z.2.1 3) (h5 : z'.2.1 5 = z.2.1 5) (hE : z'.2.2.2.1 = z.2.2.2.1) (hP : z'.2.2.1 13 = z.2.2.1 13) : lawP z' := by
  unfold lawP
  rw [h3, h5, hE, hP]; exact H
theorem zl_step {B : Nat → Nat} {n : Nat} {s : s4_X} {z : z6_X} (hs : s.1 = 0) (H : zl z s.2.1 s.2.2.1) (a : (teS B n s z).1 = 0) : zl (teZ B n s z) (teS B n s z).2.1 (teS B n s z).2.2.1 := by
  have nf := te_nofull hs a
  have mo := te_mo a
  have lk := (te_lk (B := B) (n := n) (s := s) (z := z)).2 a
  obtain ⟨⟨⟨k1, k2, k3, k4, k5⟩, k6, k7, k8, k9⟩, hL, hR, hN, hS⟩ := H
  generalize hT : (teS B n s z).2.1 = T at mo ⊢
  by_cases c1 : knF B n s.2.1 = 140
  · have n8 : z.2.1 0 < 8 := by
      by_cases q : z.2.1 0 = 8
      · exact absurd (Or.inl ⟨c1, q⟩) nf
      · omega
    have eZ : teZ B n s z = (nwN B n z.1 (pfA (decide (8 ≤ z.2.1 0)) s) 140 (z.2.1 0), updN z.2.1 0 (z.2.1 0 + 1), upP z.2.2.1 10 (fiP B n z.1 (z.2.1 0) s (z.2.2.1 10)), z.2.2.2) := by unfold teZ; rw [if_pos c1]
    rw [eZ]
    have g : ∀ j, j ≠ 0 → updN z.2.1 0 (z.2.1 0 + 1) j = z.2.1 j := fun j hj => updN_no hj
    have ge : ∀ j, z.2.1 j ≤ updN z.2.1 0 (z.2.1 0 + 1) j := fun j => updN_ge
    have gp : upP z.2.2.1 10 (fiP B n z.1 (z.2.1 0) s (z.2.2.1 10)) 13 = z.2.2.1 13 := upP_no (by decide)
    refine ⟨⟨⟨by show updN z.2.1 0 (z.2.1 0 + 1) 0 ≤ 8; rw [updN_at]; omega, by show updN z.2.1 0 (z.2.1 0 + 1) 1 ≤ 10; rw [updN_no (by decide)]; exact k2, by show updN z.2.1 0 (z.2.1 0 + 1) 2 ≤ 4; rw [updN_no (by decide)]; exact k3, by show updN z.2.1 0 (z.2.1 0 + 1) 3 ≤ 6; rw [updN_no (by decide)]; exact k4, by show updN z.2.1 0 (z.2.1 0 + 1) 4 ≤ 4; rw [updN_no (by decide)]; exact k5⟩, ?_, nw_sok k7 (Or.inl rfl), by show updN z.2.1 0 (z.2.1 0 + 1) 5 ≤ T; rw [updN_no (by decide)]; omega, ?_⟩, hL.cg (g 3 (by decide)) (g 5 (by decide)) rfl gp, ⟨fun f hf => ?_, fun p hp => ?_⟩, nr_nw hN (ge 0) (ge 1) (ge 2) (fun _ => by show z.2.1 0 < updN z.2.1 0 (z.2.1 0 + 1) 0; rw [updN_at]; omega) (fun c => absurd c (by decide)) (fun c => absurd c (by decide)), hS.up (g 4 (by decide)) rfl (ge 0) (ge 1) (ge 2) lk⟩
    · show (nwN B n z.1 (pfA (decide (8 ≤ z.2.1 0)) s) 140 (z.2.1 0)).1 ≤ sum_X (updN z.2.1 0 (z.2.1 0 + 1))
      rw [sum_up (by decide)]
      exact Nat.le_trans nw_n (by omega)
    · show ∀ q, q < updN z.2.1 0 (z.2.1 0 + 1) 4 → _
      rw [updN_no (by decide)]; exact k9
    · show bo (upP z.2.2.1 10 (fiP B n z.1 (z.2.1 0) s (z.2.2.1 10)) 10 (5 * f)) ∧ bo (upP z.2.2.1 10 (fiP B n z.1 (z.2.1 0) s (z.2.2.1 10)) 10 (5 * f + 4))
      rw [upP_at]
      have hf' : f < updN z.2.1 0 (z.2.1 0 + 1) 0 := hf
      rw [updN_at] at hf'
      by_cases e : f = z.2.1 0
      · subst e
        unfold fiP
        rw [if_neg (by omega), if_neg (by omega), if_neg (by omega), if_neg (by omega), if_pos rfl, if_pos rfl]
        exact ⟨bo_b01 _, bo_b01 _⟩
      · unfold fiP
        rw [if_neg (by omega), if_neg (by omega), if_neg (by omega), if_neg (by omega), if_neg (by omega), if_neg (by omega), if_neg (by omega), if_neg (by omega), if_neg (by omega), if_neg (by omega)]
        exact hR.1 f (by omega)
    · have hp' : p < updN z.2.1 0 (z.2.1 0 + 1) 1 := hp
      rw [updN_no (by decide)] at hp'
      show bo (upP z.2.2.1 10 (fiP B n z.1 (z.2.1 0) s (z.2.2.1 10)) 11 (5 * p))
      rw [upP_no (by decide)]; exact hR.2 p hp'
  by_cases c2 : knF B n s.2.1 = 143 ∨ knF B n s.2.1 = 144
  · have n8 : z.2.1 1 < 10 := by
      by_cases q : z.2.1 1 = 10
      · exact absurd (Or.inr (Or.inl ⟨c2, q⟩)) nf
      · omega
    have eZ : teZ B n s z = (nwN B n z.1 (pfA (decide (10 ≤ z.2.1 1)) s) 143 (z.2.1 1), updN z.2.1 1 (z.2.1 1 + 1), upP z.2.2.1 11 (peP B n z.1 (z.2.1 1) s (z.2.2.1 11)), z.2.2.2) := by unfold teZ; rw [if_neg c1, if_pos c2]
    rw [eZ]
    have g : ∀ j, j ≠ 1 → updN z.2.1 1 (z.2.1 1 + 1) j = z.2.1 j := fun j hj => updN_no hj
    have ge : ∀ j, z.2.1 j ≤ updN z.2.1 1 (z.2.1 1 + 1) j := fun j => updN_ge
    have gp : upP z.2.2.1 11 (peP B n z.1 (z.2.1 1) s (z.2.2.1 11)) 13 = z.2.2.1 13 := upP_no (by decide)
    refine ⟨⟨⟨by show updN z.2.1 1 (z.2.1 1 + 1) 0 ≤ 8; rw [updN_no (by decide)]; exact k1, by show updN z.2.1 1 (z.2.1 1 + 1) 1 ≤ 10; rw [updN_at]; omega, by show updN z.2.1 1 (z.2.1 1 + 1) 2 ≤ 4; rw [updN_no (by decide)]; exact k3, by show updN z.2.1 1 (z.2.1 1 + 1) 3 ≤ 6; rw [updN_no (by decide)]; exact k4, by show updN z.2.1 1 (z.2.1 1 + 1) 4 ≤ 4; rw [updN_no (by decide)]; exact k5⟩, ?_, nw_sok k7 (Or.inr (Or.inl rfl)), by show updN z.2.1 1 (z.2.1 1 + 1) 5 ≤ T; rw [updN_no (by decide)]; omega, ?_⟩, hL.cg (g 3 (by decide)) (g 5 (by decide)) rfl gp, ⟨fun f hf => ?_, fun p hp => ?_⟩, nr_nw hN (ge 0) (ge 1) (ge 2) (fun c => absurd c (by decide)) (fun _ => by show z.2.1 1 < updN z.2.1 1 (z.2.1 1 + 1) 1; rw [updN_at]; omega) (fun c => absurd c (by decide)), hS.up (g 4 (by decide)) rfl (ge 0) (ge 1) (ge 2) lk⟩
    · show (nwN B n z.1 (pfA (decide (10 ≤ z.2.1 1)) s) 143 (z.2.1 1)).1 ≤ sum_X (updN z.2.1 1 (z.2.1 1 + 1))
      rw [sum_up (by decide)]
      exact Nat.le_trans nw_n (by omega)
    · show ∀ q, q < updN z.2.1 1 (z.2.1 1 + 1) 4 → _
      rw [updN_no (by decide)]; exact k9
    · have hf' : f < updN z.2.1 1 (z.2.1 1 + 1) 0 := hf
      rw [updN_no (by decide)] at hf'
      show bo (upP z.2.2.1 11 (peP B n z.1 (z.2.1 1) s (z.2.2.1 11)) 10 (5 * f)) ∧ bo (upP z.2.2.1 11 (peP B n z.1 (z.2.1 1) s (z.2.2.1 11)) 10 (5 * f + 4))
      rw [upP_no (by decide)]; exact hR.1 f hf'
    · show bo (upP z.2.2.1 11 (peP B n z.1 (z.2.1 1) s (z.2.2.1 11)) 11 (5 * p))
      rw [upP_at]
      have hp' : p < updN z.2.1 1 (z.2.1 1 + 1) 1 := hp
      rw [updN_at] at hp'
      by_cases e : p = z.2.1 1
      · subst e
        unfold peP
        rw [if_neg (by omega), if_neg (by omega), if_neg (by omega), if_neg (by omega), if_pos rfl]
        exact bo_b01 _
      · unfold peP
        rw [if_neg (by omega), if_neg (by omega), if_neg (by omega), if_neg (by omega), if_neg (by omega)]
        exact hR.2 p (by omega)
  by_cases c3 : knF B n s.2.1 = 145
  · have n8 : z.2.1 2 < 4 := by
      by_cases q : z.2.1 2 = 4
      · exact absurd (Or.inr (Or.inr (Or.inl ⟨c3, q⟩))) nf
      · omega
    have eZ : teZ B n s z = (nwN B n z.1 (pfA (decide (4 ≤ z.2.1 2)) s) 145 (z.2.1 2), updN z.2.1 2 (z.2.1 2 + 1), upP z.2.2.1 12 (boP B n z.1 (z.2.1 2) s (z.2.2.1 12)), z.2.2.2) := by unfold teZ; rw [if_neg c1, if_neg c2, if_pos c3]
    rw [eZ]
    have g : ∀ j, j ≠ 2 → updN z.2.1 2 (z.2.1 2 + 1) j = z.2.1 j := fun j hj => updN_no hj
    have ge : ∀ j, z.2.1 j ≤ updN z.2.1 2 (z.2.1 2 + 1) j := fun j => updN_ge
    have gp : upP z.2.2.1 12 (boP B n z.1 (z.2.1 2) s (z.2.2.1 12)) 13 = z.2.2.1 13 := upP_no (by decide)
    refine ⟨⟨⟨by show updN z.2.1 2 (z.2.1 2 + 1) 0 ≤ 8; rw [updN_no (by decide)]; exact k1, by show updN z.2.1 2 (z.2.1 2 + 1) 1 ≤ 10; rw [updN_no (by decide)]; exact k2, by show updN z.2.1 2 (z.2.1 2 + 1) 2 ≤ 4; rw [updN_at]; omega, by show updN z.2.1 2 (z.2.1 2 + 1) 3 ≤ 6; rw [updN_no (by decide)]; exact k4, by show updN z.2.1 2 (z.2.1 2 + 1) 4 ≤ 4; rw [updN_no (by decide)]; exact k5⟩, ?_, nw_sok k7 (Or.inr (Or.inr (Or.inl rfl))), by show updN z.2.1 2 (z.2.1 2 + 1) 5 ≤ T; rw [updN_no (by decide)]; omega, ?_⟩, hL.cg (g 3 (by decide)) (g 5 (by decide)) rfl gp, ⟨fun f hf => ?_, fun p hp => ?_⟩, nr_nw hN (ge 0) (ge 1) (ge 2) (fun c => absurd c (by decide)) (fun c => absurd c (by decide)) (fun _ => by show z.2.1 2 < updN z.2.1 2 (z.2.1 2 + 1) 2; rw [updN_at]; omega), hS.up (g 4 (by decide)) rfl (ge 0) (ge 1) (ge 2) lk⟩
    · show (nwN B n z.1 (pfA (decide (4 ≤ z.2.1 2)) s) 145 (z.2.1 2)).1 ≤ sum_X (updN z.2.1 2 (z.2.1 2 + 1))
      rw [sum_up (by decide)]
      exact Nat.le_trans nw_n (by omega)
    · show ∀ q, q < updN z.2.1 2 (z.2.1 2 + 1) 4 → _
      rw [updN_no (by decide)]; exact k9
    · have hf' : f < updN z.2.1 2 (z.2.1 2 + 1) 0 := hf
      rw [updN_no (by decide)] at hf'
      show bo (upP z.2.2.1 12 (boP B n z.1 (z.2.1 2) s (z.2.2.1 12)) 10 (5 * f)) ∧ bo (upP z.2.2.1 12 (boP B n z.1 (z.2.1 2) s (z.2.2.1 12)) 10 (5 * f + 4))
      rw [upP_no (by decide)]; exact hR.1 f hf'
    · have hp' : p < updN z.2.1 2 (z.2.1 2 + 1) 1 := hp
      rw [updN_no (by decide)] at hp'
      show bo (upP z.2.2.1 12 (boP B n z.1 (z.2.1 2) s (z.2.2.1 12)) 11 (5 * p))
      rw [upP_no (by decide)]; exact hR.2 p hp'
  by_cases c4 : knF B n s.2.1 = 146
  · have n8 : z.2.1 3 < 6 := by
      by_cases q : z.2.1 3 = 6
      · exact absurd (Or.inr (Or.inr (Or.inr (Or.inl ⟨c4, q⟩)))) nf
      · omega
    have eS : teS B n s z = laS B n z.1 (z.2.1 3) (z.2.2.1 13) (z.2.1 5) s := by unfold teS; rw [if_neg c1, if_neg c2, if_neg c3, if_pos c4]
    have eZ : teZ B n s z = (nwN B n z.1 (pfA (decide (6 ≤ z.2.1 3)) s) 146 (z.2.1 3), updN (updN z.2.1 3 (z.2.1 3 + 1)) 5 (laX B n z.1 (z.2.1 3) (z.2.2.1 13) (z.2.1 5) s).2.2.2.2.2, upP z.2.2.1 13 (laX B n z.1 (z.2.1 3) (z.2.2.1 13) (z.2.1 5) s).2.2.2.2.1, updN z.2.2.2.1 (z.2.1 3) (laX B n z.1 (z.2.1 3) (z.2.2.1 13) (z.2.1 5) s).2.2.2.2.2, z.2.2.2.2) := by unfold teZ; rw [if_neg c1, if_neg c2, if_neg c3, if_pos c4]
    have zx : (laX B n z.1 (z.2.1 3) (z.2.2.1 13) (z.2.1 5) s).1.1 = 0 ∧ (laX B n z.1 (z.2.1 3) (z.2.2.1 13) (z.2.1 5) s).1.2.1 ≤ T := by
      rw [eS] at a hT
      unfold laS at a hT
      split at a
      · next c =>
        rw [if_pos c] at hT
        exact ⟨(st_al a).1, by rw [← hT]; exact st_mo⟩
      · next c => exact absurd a c
    obtain ⟨⟨x1, x2, x3, x4⟩, x5⟩ := laX_ok k8 zx.1
    rw [eZ]
    generalize laX B n z.1 (z.2.1 3) (z.2.2.1 13) (z.2.1 5) s = X at *
    refine ⟨⟨⟨by show updN (updN z.2.1 3 (z.2.1 3 + 1)) 5 X.2.2.2.2.2 0 ≤ 8; rw [updN_no (by decide), updN_no (by decide)]; exact k1, by show updN (updN z.2.1 3 (z.2.1 3 + 1)) 5 X.2.2.2.2.2 1 ≤ 10; rw [updN_no (by decide), updN_no (by decide)]; exact k2, by show updN (updN z.2.1 3 (z.2.1 3 + 1)) 5 X.2.2.2.2.2 2 ≤ 4; rw [updN_no (by decide), updN_no (by decide)]; exact k3, by show updN (updN z.2.1 3 (z.2.1 3 + 1)) 5 X.2.2.2.2.2 3 ≤ 6; rw [updN_no (by decide), updN_at]; omega, by show updN (updN z.2.1 3 (z.2.1 3 + 1)) 5 X.2.2.2.2.2 4 ≤ 4; rw [updN_no (by decide), updN_no (by decide)]; exact k5⟩, ?_, nw_sok k7 (Or.inr (Or.inr (Or.inr (Or.inl rfl)))), by show updN (updN z.2.1 3 (z.2.1 3 + 1)) 5 X.2.2.2.2.2 5 ≤ T; rw [updN_at]; omega, ?_⟩, ⟨?_, fun w hw => ?_⟩, ⟨fun f hf => ?_, fun p hp => ?_⟩, ?_, ?_⟩
    · show (nwN B n z.1 (pfA (decide (6 ≤ z.2.1 3)) s) 146 (z.2.1 3)).1 ≤ sum_X (updN (updN z.2.1 3 (z.2.1 3 + 1)) 5 X.2.2.2.2.2)
      rw [sum_5, sum_up (by decide)]
      exact Nat.le_trans nw_n (by omega)
    · show ∀ q, q < updN (updN z.2.1 3 (z.2.1 3 + 1)) 5 X.2.2.2.2.2 4 → _
      rw [updN_no (by decide), updN_no (by decide)]; exact k9
    · show updN (updN z.2.1 3 (z.2.1 3 + 1)) 5 X.2.2.2.2.2 5 = lsF (updN z.2.2.2.1 (z.2.1 3) X.2.2.2.2.2) (updN (updN z.2.1 3 (z.2.1 3 + 1)) 5 X.2.2.2.2.2 3)
      rw [updN_at, updN_no (by decide), updN_at]
      unfold lsF
      rw [if_neg (by omega), Nat.add_sub_cancel, updN_at]
    · have hw' : w < updN (updN z.2.1 3 (z.2.1 3 + 1)) 5 X.2.2.2.2.2 3 := hw
      rw [updN_no (by decide), updN_at] at hw'
      show lsF (updN z.2.2.2.1 (z.2.1 3) X.2.2.2.2.2) w ≤ updN z.2.2.2.1 (z.2.1 3) X.2.2.2.2.2 w ∧ updN z.2.2.2.1 (z.2.1 3) X.2.2.2.2.2 w ≤ updN (updN z.2.1 3 (z.2.1 3 + 1)) 5 X.2.2.2.2.2 5 ∧ rp_dep (upP z.2.2.1 13 X.2.2.2.2.1 13) (lsF (updN z.2.2.2.1 (z.2.1 3) X.2.2.2.2.2) w) (updN z.2.2.2.1 (z.2.1 3) X.2.2.2.2.2 w - lsF (updN z.2.2.2.1 (z.2.1 3) X.2.2.2.2.2) w) = some 1
      rw [updN_at, upP_at, lsF_up (by omega)]
      by_cases e : w = z.2.1 3
      · subst e
        rw [updN_at, ← hL.1]
        exact ⟨x3, Nat.le_refl _, x1⟩
      · rw [updN_no e]
        obtain ⟨g1, g2, g3⟩ := hL.2 w (by omega)
        refine ⟨g1, by omega, ?_⟩
        rw [← g3]
        exact rpd_congr _ (fun j hj => x5 _ (by omega))
    · have hf' : f < updN (updN z.2.1 3 (z.2.1 3 + 1)) 5 X.2.2.2.2.2 0 := hf
      rw [updN_no (by decide), updN_no (by decide)] at hf'
      show bo (upP z.2.2.1 13 X.2.2.2.2.1 10 (5 * f)) ∧ bo (upP z.2.2.1 13 X.2.2.2.2.1 10 (5 * f + 4))
      rw [upP_no (by decide)]; exact hR.1 f hf'
    · have hp' : p < updN (updN z.2.1 3 (z.2.1 3 + 1)) 5 X.2.2.2.2.2 1 := hp
      rw [updN_no (by decide), updN_no (by decide)] at hp'
      show bo (upP z.2.2.1 13 X.2.2.2.2.1 11 (5 * p))
      rw [upP_no (by decide)]; exact hR.2 p hp'
    · show nr_X _ (updN (updN z.2.1 3 (z.2.1 3 + 1)) 5 X.2.2.2.2.2 0) (updN (updN z.2.1 3 (z.2.1 3 + 1)) 5 X.2.2.2.2.2 1) (updN (updN z.2.1 3 (z.2.1 3 + 1)) 5 X.2.2.2.2.2 2)
      rw [updN_no (by decide), updN_no (by decide), updN_no (by decide), updN_no (by decide), updN_no (by decide), updN_no (by decide)]
      exact nr_nw hN (Nat.le_refl _) (Nat.le_refl _) (Nat.le_refl _) (fun c => absurd c (by decide)) (fun c => absurd c (by decide)) (fun c => absurd c (by decide))
    · have g : ∀ j, j ≠ 5 → z.2.1 j ≤ updN (updN z.2.1 3 (z.2.1 3 + 1)) 5 X.2.2.2.2.2 j := fun j hj => by rw [updN_no hj]; exact updN_ge
      exact hS.up (by show updN (updN z.2.1 3 (z.2.1 3 + 1)) 5 X.2.2.2.2.2 4 = _; rw [updN_no (by decide), updN_no (by decide)]) rfl (g 0 (by decide)) (g 1 (by decide)) (g 2 (by decide)) lk
  by_cases c5 : knF B n s.2.1 = 147
  · have n8 : z.2.1 4 < 4 := by
      by_cases q : z.2.1 4 = 4
      · exact absurd (Or.inr (Or.inr (Or.inr (Or.inr ⟨c5, q⟩)))) nf
      · omega
    have eS : teS B n s z = plS B n z.1 (z.2.1 4) s := by unfold teS; rw [if_neg c1, if_neg c2, if_neg c3, if_neg c4, if_pos c5]
    have eZ : teZ B n s z = (plN B n z.1 (z.2.1 4) s, updN z.2.1 4 (z.2.1 4 + 1), z.2.2.1, z.2.2.2.1, updN z.2.2.2.2.1 (z.2.1 4) (plX B n z.1 (z.2.1 4) s).2, upS z.2.2.2.2.2 (z.2.1 4) (fun k => (plR B n z.1 (z.2.1 4) s k).2)) := by unfold teZ; rw [if_neg c1, if_neg c2, if_neg c3, if_neg c4, if_pos c5]
    have hNN : nr_X (plN B n z.1 (z.2.1 4) s) (z.2.1 0) (z.2.1 1) (z.2.1 2) := nr_nw hN (Nat.le_refl _) (Nat.le_refl _) (Nat.le_refl _) (fun c => absurd c (by decide)) (fun c => absurd c (by decide)) (fun c => absurd c (by decide))
    have zx : (plX B n z.1 (z.2.1 4) s).1.1 = 0 ∧ ((teS B n s z).2.2.1 = 0 → (plX B n z.1 (z.2.1 4) s).1.2.2.1 = 0) := by
      rw [eS] at a ⊢
      unfold plS at a ⊢
      split at a
      · next c =>
        rw [if_pos c]
        refine ⟨(st_al a).1, fun q => ?_⟩
        rw [show ∀ u, (paA B n 125 u).2.2 = u.2.2 from fun u => st_lf] at q
        exact q
      · next c => exact absurd a c
    have est : (plX B n z.1 (z.2.1 4) s).1 = stS B n (plN B n z.1 (z.2.1 4) s) (pl3 B n z.1 (z.2.1 4) s) (plX B n z.1 (z.2.1 4) s).2 := sl_st (B := B) (n := n) (N := plN B n z.1 (z.2.1 4) s) (s0 := pl3 B n z.1 (z.2.1 4) s) 13 (pl3 B n z.1 (z.2.1 4) s) 0 rfl zx.1
    have sitk : ∀ k, k < (plX B n z.1 (z.2.1 4) s).2 → (siS B n (plN B n z.1 (z.2.1 4) s) k (stS B n (plN B n z.1 (z.2.1 4) s) (pl3 B n z.1 (z.2.1 4) s) k)).1 = 0 ∧ ((teS B n s z).2.2.1 = 0 → (siS B n (plN B n z.1 (z.2.1 4) s) k (stS B n (plN B n z.1 (z.2.1 4) s) (pl3 B n z.1 (z.2.1 4) s) k)).2.2.1 = 0) := by
      -- all states ahead of the last one
      have key : ∀ m, (stS B n (plN B n z.1 (z.2.1 4) s) (pl3 B n z.1 (z.2.1 4) s) m).1 = 0 → ∀ k, k < m → (siS B n (plN B n z.1 (z.2.1 4) s) k (stS B n (plN B n z.1 (z.2.1 4) s) (pl3 B n z.1 (z.2.1 4) s) k)).1 = 0 ∧ ((stS B n (plN B n z.1 (z.2.1 4) s) (pl3 B n z.1 (z.2.1 4) s) m).2.2.1 = 0 → (siS B n (plN B n z.1 (z.2.1 4) s) k (stS B n (plN B n z.1 (z.2.1 4) s) (pl3 B n z.1 (z.2.1 4) s) k)).2.2.1 = 0) := by
        intro m
        induction m with
        | zero => intro _ k hk; omega
        | succ m ih =>
          intro hm k hk
          rw [stS] at hm
          by_cases e : k = m
          · subst e; exact ⟨hm, fun q => by rw [stS] at q; exact q⟩
          · obtain ⟨i1, i2⟩ := ih (si_al hm).2.1 k (by omega)
            exact ⟨i1, fun q => i2 (by rw [stS] at q; exact si_lk.2 hm q)⟩
      intro k hk
      have z1 := zx.1
      have z2 := zx.2
      rw [est] at z1 z2
      obtain ⟨i1, i2⟩ := key _ z1 k hk
      exact ⟨i1, fun q => i2 (z2 q)⟩
    have p12 : (plX B n z.1 (z.2.1 4) s).2 ≤ 12 := sl_12 13 _ 0 (by decide)
    rw [eZ]
    have g : ∀ j, j ≠ 4 → updN z.2.1 4 (z.2.1 4 + 1) j = z.2.1 j := fun j hj => updN_no hj
    have ge : ∀ j, z.2.1 j ≤ updN z.2.1 4 (z.2.1 4 + 1) j := fun j => updN_ge
    refine ⟨⟨⟨by show updN z.2.1 4 (z.2.1 4 + 1) 0 ≤ 8; rw [updN_no (by decide)]; exact k1, by show updN z.2.1 4 (z.2.1 4 + 1) 1 ≤ 10; rw [updN_no (by decide)]; exact k2, by show updN z.2.1 4 (z.2.1 4 + 1) 2 ≤ 4; rw [updN_no (by decide)]; exact k3, by show updN z.2.1 4 (z.2.1 4 + 1) 3 ≤ 6; rw [updN_no (by decide)]; exact k4, by show updN z.2.1 4 (z.2.1 4 + 1) 4 ≤ 4; rw [updN_at]; omega⟩, ?_, nw_sok k7 (Or.inr (Or.inr (Or.inr (Or.inr rfl)))), by show updN z.2.1 4 (z.2.1 4 + 1) 5 ≤ T; rw [updN_no (by decide)]; omega, fun q hq => ?_⟩, hL.cg (g 3 (by decide)) (g 5 (by decide)) rfl rfl, ⟨fun f hf => ?_, fun p hp => ?_⟩, ?_, fun q hq => ?_⟩
    · show (nwN B n z.1 (pfA (decide (4 ≤ z.2.1 4)) s) 147 (z.2.1 4)).1 ≤ sum_X (updN z.2.1 4 (z.2.1 4 + 1))
      rw [sum_up (by decide)]
      exact Nat.le_trans nw_n (by omega)
    · have hq' : q < updN z.2.1 4 (z.2.1 4 + 1) 4 := hq
      rw [updN_at] at hq'
      show updN z.2.2.2.2.1 (z.2.1 4) (plX B n z.1 (z.2.1 4) s).2 q ≤ 12 ∧ ∀ k, k < updN z.2.2.2.2.1 (z.2.1 4) (plX B n z.1 (z.2.1 4) s).2 q → (upS z.2.2.2.2.2 (z.2.1 4) (fun k => (plR B n z.1 (z.2.1 4) s k).2) q k).1 ≤ 6
      by_cases e : q = z.2.1 4
      · rw [e, updN_at, upS_at]
        exact ⟨p12, fun k hk => (si_val hNN (sitk k hk).1).1.2.1⟩
      · rw [updN_no e, upS_no e]; exact k9 q (by omega)
    · have hf' : f < updN z.2.1 4 (z.2.1 4 + 1) 0 := hf
      rw [updN_no (by decide)] at hf'
      exact hR.1 f hf'
    · have hp' : p < updN z.2.1 4 (z.2.1 4 + 1) 1 := hp
      rw [updN_no (by decide)] at hp'
      exact hR.2 p hp'
    · show nr_X _ (updN z.2.1 4 (z.2.1 4 + 1) 0) (updN z.2.1 4 (z.2.1 4 + 1) 1) (updN z.2.1 4 (z.2.1 4 + 1) 2)
      rw [updN_no (by decide), updN_no (by decide), updN_no (by decide)]; exact hNN
    · have hq' : q < updN z.2.1 4 (z.2.1 4 + 1) 4 := hq
      rw [updN_at] at hq'
      show ∀ k, k < updN z.2.2.2.2.1 (z.2.1 4) (plX B n z.1 (z.2.1 4) s).2 q → (1 ≤ (upS z.2.2.2.2.2 (z.2.1 4) (fun k => (plR B n z.1 (z.2.1 4) s k).2) q k).1 ∧ bo ((upS z.2.2.2.2.2 (z.2.1 4) (fun k => (plR B n z.1 (z.2.1 4) s k).2) q k).2 2)) ∧ ((teS B n s z).2.2.1 = 0 → (∃ pp, pp < updN z.2.1 4 (z.2.1 4 + 1) 1 ∧ (upS z.2.2.2.2.2 (z.2.1 4) (fun k => (plR B n z.1 (z.2.1 4) s k).2) q k).2 0 = nI pp) ∧ (∃ bb, bb < updN z.2.1 4 (z.2.1 4 + 1) 2 ∧ (upS z.2.2.2.2.2 (z.2.1 4) (fun k => (plR B n z.1 (z.2.1 4) s k).2) q k).2 1 = nI bb) ∧ ∀ i, i < (upS z.2.2.2.2.2 (z.2.1 4) (fun k => (plR B n z.1 (z.2.1 4) s k).2) q k).1 → ∃ ff, ff < updN z.2.1 4 (z.2.1 4 + 1) 0 ∧ (upS z.2.2.2.2.2 (z.2.1 4) (fun k => (plR B n z.1 (z.2.1 4) s k).2) q k).2 (4 + i) = nI ff)
      rw [updN_no (show 1 ≠ 4 by decide), updN_no (show 2 ≠ 4 by decide), updN_no (show 0 ≠ 4 by decide)]
      by_cases e : q = z.2.1 4
      · rw [e, updN_at, upS_at]
        intro k hk
        obtain ⟨i1, i2⟩ := sitk k hk
        obtain ⟨⟨v1, v2, v3⟩, v4⟩ := si_val hNN i1
        exact ⟨⟨v1, v3⟩, fun q => v4 (i2 q)⟩
      · rw [updN_no e, upS_no e]
        intro k hk
        obtain ⟨g1, g2⟩ := hS q (by omega) k hk
        exact ⟨g1, fun c => g2 (lk c)⟩
  · have eS : teS B n s z = (1, s.2) := by unfold teS; rw [if_neg c1, if_neg c2, if_neg c3, if_neg c4, if_neg c5]
    rw [eS] at a; exact absurd (show (1 : Nat) = 0 from a) (by decide)
