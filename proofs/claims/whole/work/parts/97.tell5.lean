/-! read: a tell, in the reference -/
theorem rF_up {I J : st_I} {sd c : Nat} {P P' : Nat → Int32} (H : rF_X I sd c P) (h : mf sd (8 * sd + c) I J) (hP : ∀ j, j < 5 * c → P' j = P j) (h69 : J 69 sd = nI (c + 1)) (a0 : J 70 (8 * sd + c) = P' (5 * c)) (a4 : J 72 (8 * sd + c) = P' (5 * c + 4)) (a : ∀ i, i < 3 → J 71 (3 * (8 * sd + c) + i) = P' (5 * c + 1 + i)) : rF_X J sd (c + 1) P' := by
  refine ⟨h69, fun f hf => ?_⟩
  by_cases e : f = c
  · subst e; exact ⟨a0, a4, a⟩
  · obtain ⟨b1, b2, b3⟩ := H.2 f (by omega)
    rw [h.2.2.2.1 _ (by omega), h.2.2.2.2.2 _ (by omega), hP _ (by omega), hP _ (by omega)]
    exact ⟨b1, b2, fun i hi => by rw [h.2.2.2.2.1 _ (by omega), hP _ (by omega)]; exact b3 i hi⟩
theorem rP_up {I J : st_I} {sd c : Nat} {P P' : Nat → Int32} (H : rP_X I sd c P) (h : mq sd (10 * sd + c) I J) (hP : ∀ j, j < 5 * c → P' j = P j) (h69 : J 73 sd = nI (c + 1)) (a0 : J 74 (10 * sd + c) = P' (5 * c)) (a4 : J 76 (10 * sd + c) = P' (5 * c + 4)) (a : ∀ i, i < 3 → J 75 (3 * (10 * sd + c) + i) = P' (5 * c + 1 + i)) : rP_X J sd (c + 1) P' := by
  refine ⟨h69, fun f hf => ?_⟩
  by_cases e : f = c
  · subst e; exact ⟨a0, a4, a⟩
  · obtain ⟨b1, b2, b3⟩ := H.2 f (by omega)
    rw [h.2.2.2.1 _ (by omega), h.2.2.2.2.2 _ (by omega), hP _ (by omega), hP _ (by omega)]
    exact ⟨b1, b2, fun i hi => by rw [h.2.2.2.2.1 _ (by omega), hP _ (by omega)]; exact b3 i hi⟩
theorem rB_up {I J : st_I} {sd c : Nat} {P P' : Nat → Int32} (H : rB_X I sd c P) (h : mb sd (12 * sd + 3 * c) I J) (hP : ∀ j, j < 3 * c → P' j = P j) (h69 : J 77 sd = nI (c + 1)) (a : ∀ i, i < 3 → J 78 (12 * sd + 3 * c + i) = P' (3 * c + i)) : rB_X J sd (c + 1) P' := by
  refine ⟨h69, fun f hf i hi => ?_⟩
  by_cases e : f = c
  · subst e; exact a i hi
  · rw [h.2.2.2 _ (by omega), hP _ (by omega)]; exact H.2 f (by omega) i hi
theorem rL_up {I J : st_I} {sd c k k' : Nat} {E : Nat → Nat} {P P' : Nat → Int32} (H : rL_X I sd c k E P) (h : ml sd (6 * sd + c) I J) (hk : k = lsF E c) (h79 : J 79 sd = nI (c + 1)) (h44 : J 58 44 = nI (420 * sd + k')) (h12 : J 58 12 = nI 0) (hC : ∀ j, j < k' → iv_code (P' j) (J 89 (420 * sd + j)) (J 90 (420 * sd + j))) (a0 : J 80 (6 * sd + c) = nI (420 * sd + k)) (a1 : J 81 (6 * sd + c) = nI (420 * sd + k')) : rL_X J sd (c + 1) k' (updN E c k') P' := by
  refine ⟨h79, h44, h12, hC, fun w hw => ?_⟩
  have el : lsF (updN E c k') w = lsF E w := by
    unfold lsF
    split
    · rfl
    · rw [updN_no (by omega)]
  rw [el]
  by_cases e : w = c
  · subst e; rw [updN_at, a0, a1, hk]; exact ⟨rfl, rfl⟩
  · rw [updN_no e, (h.2.2.2.1 _ (by omega)).1, (h.2.2.2.1 _ (by omega)).2]; exact H.2.2.2.2 w (by omega)
theorem rQ.at {I J : st_I} {g m lf : Nat} {R : Nat → Int32} (H : rQ I g m R lf) (h : J 84 g = I 84 g ∧ J 85 g = I 85 g ∧ J 86 g = I 86 g ∧ J 87 g = I 87 g) (h8 : ∀ i, i < m → J 88 (6 * g + i) = I 88 (6 * g + i)) : rQ J g m R lf := by
  refine ⟨by rw [h.2.2.2]; exact H.1, fun z => ?_⟩
  obtain ⟨a, b, c, d⟩ := H.2 z
  exact ⟨by rw [h.1]; exact a, by rw [h.2.1]; exact b, by rw [h.2.2.1]; exact c, fun i hi => by rw [h8 i hi]; exact d i hi⟩
theorem rW_up {I J : st_I} {sd c x lf lf' : Nat} {S : Nat → Nat} {R : Nat → Nat → Nat × (Nat → Int32)} {f : Nat → Nat × (Nat → Int32)} (H : rW_X I sd c S R lf) (h : mp sd (4 * sd + c) I J) (hS : ∀ q, q < c → S q ≤ 12 ∧ ∀ k, k < S q → (R q k).1 ≤ 6) (hl : lf' = 0 → lf = 0) (h82 : J 82 sd = nI (c + 1)) (a : J 83 (4 * sd + c) = nI x) (b : ∀ k, k < x → rQ J (12 * (4 * sd + c) + k) (f k).1 (f k).2 lf') : rW_X J sd (c + 1) (updN S c x) (upS R c f) lf' := by
  refine ⟨h82, fun q hq => ?_⟩
  by_cases e : q = c
  · subst e; rw [updN_at, upS_at]; exact ⟨a, b⟩
  · rw [updN_no e, upS_no e]
    obtain ⟨g1, g2⟩ := H.2 q (by omega)
    obtain ⟨s1, s2⟩ := hS q (by omega)
    refine ⟨by rw [h.2.2.2.1 _ (by omega)]; exact g1, fun k hk => ?_⟩
    have m6 := s2 k hk
    exact ((g2 k hk).lf hl).at (h.2.2.2.2.1 _ (by omega)) (fun i hi => h.2.2.2.2.2 _ (by omega))
theorem sum_up {c : Nat → Nat} {k : Nat} (h : k < 5) : sum_X (updN c k (c k + 1)) = sum_X c + 1 := by
  have h5 : k = 0 ∨ k = 1 ∨ k = 2 ∨ k = 3 ∨ k = 4 := by omega
  unfold sum_X
  rcases h5 with rfl | rfl | rfl | rfl | rfl
  · rw [updN_at, updN_no (by decide), updN_no (by decide), updN_no (by decide), updN_no (by decide)]; omega
  · rw [updN_at, updN_no (by decide), updN_no (by decide), updN_no (by decide), updN_no (by decide)]; omega
  · rw [updN_at, updN_no (by decide), updN_no (by decide), updN_no (by decide), updN_no (by decide)]; omega
  · rw [updN_at, updN_no (by decide), updN_no (by decide), updN_no (by decide), updN_no (by decide)]; omega
  · rw [updN_at, updN_no (by decide), updN_no (by decide), updN_no (by decide), updN_no (by decide)]; omega
theorem sum_5 {c : Nat → Nat} {x : Nat} : sum_X (updN c 5 x) = sum_X c := by
  unfold sum_X
  rw [updN_no (by decide), updN_no (by decide), updN_no (by decide), updN_no (by decide), updN_no (by decide)]
theorem m_tell {d sd : Nat} {B : Nat → Nat} {n : Nat} {J : st_I} {M : st_L} {s : s4_X} {z : z6_X} {F : st_I → st_L → Prop} (hsd : sd ≤ 1) (H : rr B n J M s) (hl : lok s) (hs : s.1 = 0) (Z : rz B n sd J M z s.2.2.1) (K : zk z s.2.1) (hlk : z.2.1 5 = lsF z.2.2.2.1 (z.2.1 3)) (h : ∀ J' M', rr B n J' M' (teS B n s z) → mte sd J J' → (∀ q, q ≠ 66 → M' q = M q) → ((teS B n s z).1 = 0 → rz B n sd J' M' (teZ B n s z) (teS B n s z).2.2.1) → F J' M') : EV (d + 6) mX12_tell [.ref 58] J M F := by
  obtain ⟨zN, z19, zF, zP, zB, zL, zW⟩ := id Z
  obtain ⟨⟨k1, k2, k3, k4, k5⟩, k6, k7, k8, k9⟩ := id K
  have c39 : sum_X z.2.1 < 39 := by unfold sum_X; omega
  have lk := (te_lk (B := B) (n := n) (s := s) (z := z)).2
  by_cases full : full_X B n s z.2.1
  · have e := te_full hs full
    rw [e] at h
    exact m_full hsd H hs z19 zF.1 zP.1 zB.1 zL.1 zW.1 full (fun K' a b => h K' M a b.mte (fun _ _ => rfl) (fun c => absurd (show (2 : Nat) = 0 from c) (by decide)))
  by_cases c1 : knF B n s.2.1 = 140
  · have n8 : z.2.1 0 < 8 := by
      by_cases q : z.2.1 0 = 8
      · exact absurd (Or.inl ⟨c1, q⟩) full
      · omega
    have eS : teS B n s z = fiS B n z.1 (z.2.1 0) s := by unfold teS; rw [if_pos c1]
    have eZ : teZ B n s z = (nwN B n z.1 (pfA (decide (8 ≤ z.2.1 0)) s) 140 (z.2.1 0), updN z.2.1 0 (z.2.1 0 + 1), upP z.2.2.1 10 (fiP B n z.1 (z.2.1 0) s (z.2.2.1 10)), z.2.2.2) := by unfold teZ; rw [if_pos c1]
    rw [eS, eZ] at h
    rw [eS] at lk
    refine m_fiddle hsd k1 c39 H hl zN hs c1 z19 zF.1 (fun J' M' a b c e => h J' M' a (b.mte n8) c (fun y => ?_))
    obtain ⟨f1, f2, f3, f4, f5, f6, f7⟩ := e y
    have fr : ∀ q, 72 < q → J' q = J q := fun q hq => b.1 q (by omega)
    refine ⟨?_, by rw [b.2.1 19 (by decide) (by decide) (by omega)]; exact z19, ?_, ?_, ?_, ?_, ?_⟩
    · show rN B n J' M' _ (sum_X (updN z.2.1 0 (z.2.1 0 + 1))) _
      rw [sum_up (by decide)]; exact f1
    · show rF_X J' sd (updN z.2.1 0 (z.2.1 0 + 1) 0) (upP z.2.2.1 10 (fiP B n z.1 (z.2.1 0) s (z.2.2.1 10)) 10)
      rw [updN_at, upP_at]
      refine rF_up zF b (fun j hj => ?_) f2 ?_ ?_ (fun i hi => ?_)
      · unfold fiP; rw [if_neg (by omega), if_neg (by omega), if_neg (by omega), if_neg (by omega), if_neg (by omega)]
      · unfold fiP; rw [if_neg (by omega), if_neg (by omega), if_neg (by omega), if_neg (by omega), if_pos rfl]; exact f3
      · unfold fiP; rw [if_pos rfl]; exact f7
      · have hi3 : i = 0 ∨ i = 1 ∨ i = 2 := by omega
        unfold fiP
        rcases hi3 with rfl | rfl | rfl
        · rw [if_neg (by omega), if_neg (by omega), if_neg (by omega), if_pos (by omega)]; exact f4
        · rw [if_neg (by omega), if_neg (by omega), if_pos (by omega)]; exact f5
        · rw [if_neg (by omega), if_pos (by omega)]; exact f6
    · exact zP.cg (fun q a _ => fr q (by omega))
    · exact zB.cg (fun q a _ => fr q (by omega))
    · exact zL.cg (fun q a => fr q (by omega)) (b.2.1 44 (by decide) (by decide) (by omega)) (b.2.1 12 (by decide) (by decide) (by omega))
    · exact zW.cg (fun q a _ => fr q (by omega)) (lk y)
  by_cases c2 : knF B n s.2.1 = 143 ∨ knF B n s.2.1 = 144
  · have n8 : z.2.1 1 < 10 := by
      by_cases q : z.2.1 1 = 10
      · exact absurd (Or.inr (Or.inl ⟨c2, q⟩)) full
      · omega
    have eS : teS B n s z = peS B n z.1 (z.2.1 1) s := by unfold teS; rw [if_neg c1, if_pos c2]
    have eZ : teZ B n s z = (nwN B n z.1 (pfA (decide (10 ≤ z.2.1 1)) s) 143 (z.2.1 1), updN z.2.1 1 (z.2.1 1 + 1), upP z.2.2.1 11 (peP B n z.1 (z.2.1 1) s (z.2.2.1 11)), z.2.2.2) := by unfold teZ; rw [if_neg c1, if_pos c2]
    rw [eS, eZ] at h
    rw [eS] at lk
    refine m_person hsd k2 c39 H hl zN hs c2 z19 zP.1 (fun J' M' a b c e => h J' M' a (b.mte n8) c (fun y => ?_))
    obtain ⟨f1, f2, f3, f4, f5, f6, f7⟩ := e y
    have fr : ∀ q, (68 < q ∧ q < 73) ∨ 76 < q → J' q = J q := fun q hq => b.1 q (by omega)
    refine ⟨?_, by rw [b.2.1 19 (by decide) (by decide) (by omega)]; exact z19, ?_, ?_, ?_, ?_, ?_⟩
    · show rN B n J' M' _ (sum_X (updN z.2.1 1 (z.2.1 1 + 1))) _
      rw [sum_up (by decide)]; exact f1
    · exact zF.cg (fun q a _ => fr q (by omega))
    · show rP_X J' sd (updN z.2.1 1 (z.2.1 1 + 1) 1) (upP z.2.2.1 11 (peP B n z.1 (z.2.1 1) s (z.2.2.1 11)) 11)
      rw [updN_at, upP_at]
      refine rP_up zP b (fun j hj => ?_) f2 ?_ ?_ (fun i hi => ?_)
      · unfold peP; rw [if_neg (by omega), if_neg (by omega), if_neg (by omega), if_neg (by omega), if_neg (by omega)]
      · unfold peP; rw [if_neg (by omega), if_neg (by omega), if_neg (by omega), if_neg (by omega), if_pos rfl]; exact f3
      · unfold peP; rw [if_pos rfl]; exact f7
      · have hi3 : i = 0 ∨ i = 1 ∨ i = 2 := by omega
        unfold peP
        rcases hi3 with rfl | rfl | rfl
        · rw [if_neg (by omega), if_neg (by omega), if_neg (by omega), if_pos (by omega)]; exact f4
        · rw [if_neg (by omega), if_neg (by omega), if_pos (by omega)]; exact f5
        · rw [if_neg (by omega), if_pos (by omega)]; exact f6
    · exact zB.cg (fun q a _ => fr q (by omega))
    · exact zL.cg (fun q a => fr q (by omega)) (b.2.1 44 (by decide) (by decide) (by omega)) (b.2.1 12 (by decide) (by decide) (by omega))
    · exact zW.cg (fun q a _ => fr q (by omega)) (lk y)
  by_cases c3 : knF B n s.2.1 = 145
  · have n8 : z.2.1 2 < 4 := by
      by_cases q : z.2.1 2 = 4
      · exact absurd (Or.inr (Or.inr (Or.inl ⟨c3, q⟩))) full
      · omega
    have eS : teS B n s z = boS B n z.1 (z.2.1 2) s := by unfold teS; rw [if_neg c1, if_neg c2, if_pos c3]
    have eZ : teZ B n s z = (nwN B n z.1 (pfA (decide (4 ≤ z.2.1 2)) s) 145 (z.2.1 2), updN z.2.1 2 (z.2.1 2 + 1), upP z.2.2.1 12 (boP B n z.1 (z.2.1 2) s (z.2.2.1 12)), z.2.2.2) := by unfold teZ; rw [if_neg c1, if_neg c2, if_pos c3]
    rw [eS, eZ] at h
    rw [eS] at lk
    refine m_bow hsd k3 c39 H hl zN hs c3 z19 zB.1 (fun J' M' a b c e => h J' M' a (b.mte n8) c (fun y => ?_))
    obtain ⟨f1, f2, f3, f4, f5⟩ := e y
    have fr : ∀ q, (68 < q ∧ q < 77) ∨ 78 < q → J' q = J q := fun q hq => b.1 q (by omega)
    refine ⟨?_, by rw [b.2.1 19 (by decide) (by decide) (by omega)]; exact z19, ?_, ?_, ?_, ?_, ?_⟩
    · show rN B n J' M' _ (sum_X (updN z.2.1 2 (z.2.1 2 + 1))) _
      rw [sum_up (by decide)]; exact f1
    · exact zF.cg (fun q a _ => fr q (by omega))
    · exact zP.cg (fun q a _ => fr q (by omega))
    · show rB_X J' sd (updN z.2.1 2 (z.2.1 2 + 1) 2) (upP z.2.2.1 12 (boP B n z.1 (z.2.1 2) s (z.2.2.1 12)) 12)
      rw [updN_at, upP_at]
      refine rB_up zB b (fun j hj => ?_) f2 (fun i hi => ?_)
      · unfold boP; rw [if_neg (by omega), if_neg (by omega), if_neg (by omega)]
      · have hi3 : i = 0 ∨ i = 1 ∨ i = 2 := by omega
        unfold boP
        rcases hi3 with rfl | rfl | rfl
        · rw [if_neg (by omega), if_neg (by omega), if_pos (by omega)]; exact f3
        · rw [if_neg (by omega), if_pos (by omega)]; exact f4
        · rw [if_pos (by omega)]; exact f5
    · exact zL.cg (fun q a => fr q (by omega)) (b.2.1 44 (by decide) (by decide) (by omega)) (b.2.1 12 (by decide) (by decide) (by omega))
    · exact zW.cg (fun q a _ => fr q (by omega)) (lk y)
  by_cases c4 : knF B n s.2.1 = 146
  · have n8 : z.2.1 3 < 6 := by
      by_cases q : z.2.1 3 = 6
      · exact absurd (Or.inr (Or.inr (Or.inr (Or.inl ⟨c4, q⟩)))) full
      · omega
    have eS : teS B n s z = laS B n z.1 (z.2.1 3) (z.2.2.1 13) (z.2.1 5) s := by unfold teS; rw [if_neg c1, if_neg c2, if_neg c3, if_pos c4]
    have eZ : teZ B n s z = (nwN B n z.1 (pfA (decide (6 ≤ z.2.1 3)) s) 146 (z.2.1 3), updN (updN z.2.1 3 (z.2.1 3 + 1)) 5 (laX B n z.1 (z.2.1 3) (z.2.2.1 13) (z.2.1 5) s).2.2.2.2.2, upP z.2.2.1 13 (laX B n z.1 (z.2.1 3) (z.2.2.1 13) (z.2.1 5) s).2.2.2.2.1, updN z.2.2.2.1 (z.2.1 3) (laX B n z.1 (z.2.1 3) (z.2.2.1 13) (z.2.1 5) s).2.2.2.2.2, z.2.2.2.2) := by unfold teZ; rw [if_neg c1, if_neg c2, if_neg c3, if_pos c4]
    rw [eS, eZ] at h
    rw [eS] at lk
    refine m_law (C := z.2.2.1 13) hsd k4 c39 H hl zN hs c4 z19 zL.1 k8 zL.2.2.1 zL.2.1 zL.2.2.2.1 (fun J' M' a b c e => h J' M' a (b.mte n8) c (fun y => ?_))
    obtain ⟨f1, f2, f3, f4, f5, f6, f7⟩ := e y
    have fr : ∀ q, (68 < q ∧ q < 79) ∨ (81 < q ∧ q < 89) → J' q = J q := fun q hq => b.1 q (by omega)
    refine ⟨?_, by rw [b.2.1 19 (by decide) (by decide) (by decide) (by decide) (by decide) (by omega)]; exact z19, ?_, ?_, ?_, ?_, ?_⟩
    · show rN B n J' M' _ (sum_X (updN (updN z.2.1 3 (z.2.1 3 + 1)) 5 _)) _
      rw [sum_5, sum_up (by decide)]; exact f1
    · exact zF.cg (fun q a _ => fr q (by omega))
    · exact zP.cg (fun q a _ => fr q (by omega))
    · exact zB.cg (fun q a _ => fr q (by omega))
    · show rL_X J' sd (updN (updN z.2.1 3 (z.2.1 3 + 1)) 5 (laX B n z.1 (z.2.1 3) (z.2.2.1 13) (z.2.1 5) s).2.2.2.2.2 3) (updN (updN z.2.1 3 (z.2.1 3 + 1)) 5 (laX B n z.1 (z.2.1 3) (z.2.2.1 13) (z.2.1 5) s).2.2.2.2.2 5) (updN z.2.2.2.1 (z.2.1 3) (laX B n z.1 (z.2.1 3) (z.2.2.1 13) (z.2.1 5) s).2.2.2.2.2) (upP z.2.2.1 13 (laX B n z.1 (z.2.1 3) (z.2.2.1 13) (z.2.1 5) s).2.2.2.2.1 13)
      rw [updN_at, updN_no (by decide), updN_at, upP_at]
      exact rL_up zL b hlk f2 f5 f6 f7 f3 f4
    · exact zW.cg (fun q a _ => fr q (by omega)) (lk y)
  by_cases c5 : knF B n s.2.1 = 147
  · have n8 : z.2.1 4 < 4 := by
      by_cases q : z.2.1 4 = 4
      · exact absurd (Or.inr (Or.inr (Or.inr (Or.inr ⟨c5, q⟩)))) full
      · omega
    have eS : teS B n s z = plS B n z.1 (z.2.1 4) s := by unfold teS; rw [if_neg c1, if_neg c2, if_neg c3, if_neg c4, if_pos c5]
    have eZ : teZ B n s z = (plN B n z.1 (z.2.1 4) s, updN z.2.1 4 (z.2.1 4 + 1), z.2.2.1, z.2.2.2.1, updN z.2.2.2.2.1 (z.2.1 4) (plX B n z.1 (z.2.1 4) s).2, upS z.2.2.2.2.2 (z.2.1 4) (fun k => (plR B n z.1 (z.2.1 4) s k).2)) := by unfold teZ; rw [if_neg c1, if_neg c2, if_neg c3, if_neg c4, if_pos c5]
    rw [eS, eZ] at h
    rw [eS] at lk
    refine m_plan hsd k5 c39 H hl zN hs c5 z19 zW.1 (fun J' M' a b c e => h J' M' a (b.mte n8) c (fun y => ?_))
    obtain ⟨f1, f2, f3, f4⟩ := e y
    have fr : ∀ q, (68 < q ∧ q < 82) ∨ 88 < q → J' q = J q := fun q hq => b.1 q (by omega)
    refine ⟨?_, by rw [b.2.1 19 (by decide) (by decide) (by omega)]; exact z19, ?_, ?_, ?_, ?_, ?_⟩
    · show rN B n J' M' _ (sum_X (updN z.2.1 4 (z.2.1 4 + 1))) _
      rw [sum_up (by decide)]; exact f1
    · exact zF.cg (fun q a _ => fr q (by omega))
    · exact zP.cg (fun q a _ => fr q (by omega))
    · exact zB.cg (fun q a _ => fr q (by omega))
    · exact zL.cg (fun q a => fr q (by omega)) (b.2.1 44 (by decide) (by decide) (by omega)) (b.2.1 12 (by decide) (by decide) (by omega))
    · show rW_X J' sd (updN z.2.1 4 (z.2.1 4 + 1) 4) (updN z.2.2.2.2.1 (z.2.1 4) (plX B n z.1 (z.2.1 4) s).2) (upS z.2.2.2.2.2 (z.2.1 4) (fun k => (plR B n z.1 (z.2.1 4) s k).2)) _
      rw [updN_at]
      exact rW_up zW b k9 (lk y) f2 f3 f4
  · have eS : teS B n s z = (1, s.2) := by unfold teS; rw [if_neg c1, if_neg c2, if_neg c3, if_neg c4, if_neg c5]
    rw [eS] at h
    exact m_other H hs (by omega) (fun K' a b => h K' M a b.mte (fun _ _ => rfl) (fun c => absurd (show (1 : Nat) = 0 from c) (by decide)))
