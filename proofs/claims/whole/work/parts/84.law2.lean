/-! read: a LAW's tell, in the class -/
def e0_X (C : Nat → Int32) (c : Nat) : e5_X := (fun _ => 0, 0, 0, C, c)
theorem gE_0 {C : Nat → Int32} {c m : Nat} (h : c + 3 ≤ m) : gE c m (e0_X C c) 0 0 := ⟨⟨rfl, rfl⟩, by decide, fun _ => (show 0 < 256 by decide), (show 0 ≤ 6 by decide), by show c + 0 + 3 ≤ m; omega, Nat.le_refl _, by show rp_dep C c (c - c) = _; rw [Nat.sub_self]; rfl⟩
def la2 (B : Nat → Nat) (n : Nat) (N : nm_X) (nl : Nat) (s : s4_X) : s4_X := paA B n 61 (nwA B n N (pfA (decide (6 ≤ nl)) s))
def laX (B : Nat → Nat) (n : Nat) (N : nm_X) (nl : Nat) (C : Nat → Int32) (c : Nat) (s : s4_X) : s4_X × e5_X := exL B n 402 true (la2 B n N nl s) (e0_X C c)
def laS (B : Nat → Nat) (n : Nat) (N : nm_X) (nl : Nat) (C : Nat → Int32) (c : Nat) (s : s4_X) : s4_X := if (pfA (decide (6 ≤ nl)) s).1 = 0 then paA B n 59 (laX B n N nl C c s).1 else pfA (decide (6 ≤ nl)) s
theorem la2_al {B : Nat → Nat} {n nl : Nat} {N : nm_X} {s : s4_X} (h : (la2 B n N nl s).1 = 0) : s.1 = 0 ∧ nl < 6 ∧ alv B n (pfA (decide (6 ≤ nl)) s) = true ∧ (la2 B n N nl s).2.1 = s.2.1 + 3 ∧ (la2 B n N nl s).2.1 ≤ 400 := by
  unfold la2 at h ⊢
  obtain ⟨a1, a2, a3, a4⟩ := st_al (show (stA (decide (knF B n (nwA B n N (pfA (decide (6 ≤ nl)) s)).2.1 = 61)) (nwA B n N (pfA (decide (6 ≤ nl)) s))).1 = 0 from h)
  obtain ⟨b1, b2⟩ := nw_al a1
  obtain ⟨c1, c2, c3, c4⟩ := alv_2 b2
  by_cases o : 6 ≤ nl
  · exfalso
    unfold pfA at b1
    by_cases z : s.1 = 0
    · rw [if_pos ⟨z, decide_eq_true o⟩] at b1; exact absurd (show (2 : Nat) = 0 from b1) (by decide)
    · rw [if_neg (fun q => z q.1), st_dead z] at b1; exact z b1
  · rw [pf_no (decide_eq_false o)] at a1 a2 a3 a4 b1 b2 c1 c2 c3 c4 ⊢
    obtain ⟨d1, d2, d3, d4⟩ := st_al b1
    have e1 : (nwA B n N (stA true s)).2.1 = s.2.1 + 2 := by
      unfold nwA
      rw [la_1.2, c4]
      show (stA true s).2.1 + 1 = _
      rw [d4]
    refine ⟨d1, by omega, b2, ?_, ?_⟩
    · show (stA _ (nwA B n N (stA true s))).2.1 = _
      rw [a4]; show (nwA B n N (stA true s)).2.1 + 1 = _; omega
    · show (stA _ (nwA B n N (stA true s))).2.1 ≤ 400
      rw [a4]; show (nwA B n N (stA true s)).2.1 + 1 ≤ 400; omega
theorem exL_al {B : Nat → Nat} {n : Nat} : ∀ r due s e, (exL B n r due s e).1.1 = 0 → s.1 = 0
  | 0, _, _, _, h => h
  | r + 1, due, s, e, h => by
    rw [exL] at h
    by_cases hs : s.1 = 0
    · exact hs
    · rw [if_neg hs] at h; exact absurd h hs
/-- what a LAW's codes are -/
theorem laX_ok {B : Nat → Nat} {n nl c : Nat} {N : nm_X} {C : Nat → Int32} {s : s4_X} (hc : c ≤ s.2.1) (h : (laX B n N nl C c s).1.1 = 0) : (rp_dep (laX B n N nl C c s).2.2.2.2.1 c ((laX B n N nl C c s).2.2.2.2.2 - c) = some 1 ∧ (laX B n N nl C c s).2.2.2.2.2 + 3 ≤ (laX B n N nl C c s).1.2.1 ∧ c ≤ (laX B n N nl C c s).2.2.2.2.2 ∧ (laX B n N nl C c s).2.2.2.1 = 0) ∧ ∀ j, j < c → (laX B n N nl C c s).2.2.2.2.1 j = C j := by
  refine exL_ok 402 true (la2 B n N nl s) (e0_X C c) 0 (fun z => ?_) h
  obtain ⟨a1, a2, a3, a4, a5⟩ := la2_al z
  exact ⟨a5, by omega, gE_0 (by omega)⟩
theorem x_exp {d c : Nat} {B : Nat → Nat} {n : Nat} {C : Nat → Int32} {s : s4_X} {I : st_I} {L : st_L} {F : st_I → st_L → Prop} (H : cx B n I s) (hc : s.1 = 0 → c + 3 ≤ s.2.1) (h18 : I 17 18 = nI c) (h13 : ∀ j, j < c → I 13 j = C j) (h : ∀ J, cx B n J (exL B n 402 true s (e0_X C c)).1 → xe I J → ((exL B n 402 true s (e0_X C c)).1.1 = 0 → cE J (exL B n 402 true s (e0_X C c)).2) → F J L) : EV (d + 4) mX5_takeExpression [.ref 17] I L F := by
  refine sgX5_takeExpression_0 ?_
  have x0 : xe I (u_I (u_I (u_I I 17 15 0) 17 16 0) 17 17 1) := ((xe_k (by decide)).tr (xe_k (by decide))).tr (xe_k (by decide))
  have w0 : xw I (u_I (u_I (u_I I 17 15 0) 17 16 0) 17 17 1) := ((xw_k (by decide)).tr (xw_k (by decide))).tr (xw_k (by decide))
  refine x_exp_19 (a := c) (I0 := I) 402 true s (e0_X C c) 0 0 _ (by omega) (by omega) (H.xw w0) x0 (fun z => ⟨Nat.zero_le _, ⟨?_, ?_, ?_, fun i hi => absurd hi (Nat.not_lt_zero _), fun j hj => ?_⟩, gE_0 (hc z), by simp [u_I]; rfl⟩) h
  · rw [u17 (by decide), u17 (by decide)]; simp [u_I]; rfl
  · rw [u17 (by decide)]; simp [u_I]; rfl
  · rw [u17 (by decide), u17 (by decide), u17 (by decide)]; exact h18
  · rw [u_I_ne _ _ (show 13 ≠ 17 by decide), u_I_ne _ _ (show 13 ≠ 17 by decide), u_I_ne _ _ (show 13 ≠ 17 by decide)]; exact h13 j hj
/-- frame of a LAW's tell in the class -/
def xl (I J : st_I) : Prop := (∀ q, q ≠ 9 → q ≠ 13 → q ≠ 14 → q ≠ 17 → q ≠ 22 → q ≠ 23 → q ≠ 24 → J q = I q) ∧ (∀ j, j ≠ 3 → J 9 j = I 9 j) ∧ ∀ j, j < 6 ∨ (9 < j ∧ j ≠ 13 ∧ j < 15) → J 17 j = I 17 j
theorem cN.xe {B : Nat → Nat} {n : Nat} {I J : st_I} {L : st_L} {N : nm_X} (H : cN B n I L N) (h : xe I J) : cN B n J L N := by
  refine ⟨by rw [h.2 13 (by omega)]; exact H.1, H.2.1, fun j hj => ?_⟩
  rw [h.1 22 (by decide) (by decide) (by decide), h.1 23 (by decide) (by decide) (by decide)]; exact H.2.2 j hj
theorem x_law {d nl c : Nat} {B : Nat → Nat} {n : Nat} {I : st_I} {L : st_L} {s : s4_X} {N : nm_X} {C : Nat → Int32} {F : st_I → st_L → Prop} (H : cx B n I s) (HN : cN B n I L N) (h32 : nl < 6 → N.1 < 32) (h9 : I 9 3 = nI nl) (hnl : nl ≤ 6) (hs : s.1 = 0) (hk : 2 ≤ knF B n s.2.1) (hc : c ≤ s.2.1) (h18 : I 17 18 = nI c) (h13 : ∀ j, j < c → I 13 j = C j)
    (h : ∀ J M, cx B n J (laS B n N nl C c s) → xl I J → (∀ q, q ≠ 21 → M q = L q) → ((laS B n N nl C c s).1 = 0 → nl < 6 ∧ cN B n J M (nwN B n N (pfA (decide (6 ≤ nl)) s) 146 nl) ∧ J 9 3 = nI (nl + 1) ∧ (∀ j, j ≠ nl → J 14 j = I 14 j) ∧ J 14 nl = nI (laX B n N nl C c s).2.2.2.2.2 ∧ J 17 18 = nI (laX B n N nl C c s).2.2.2.2.2 ∧ ∀ j, j < (laX B n N nl C c s).2.2.2.2.2 → J 13 j = (laX B n N nl C c s).2.2.2.2.1 j) → F J M) : EV (d + 5) mX5_takeLaw [.ref 17] I L F := by
  refine sgX5_takeLaw_0 ?_
  rw [h9]
  refine x_passFirst (b := 6) H hk (by omega) (by decide) (fun J1 hJ1 x1 => ?_)
  unfold laS at h
  by_cases z : (pfA (decide (6 ≤ nl)) s).1 = 0
  · rw [if_pos z] at h
    have n6 : nl < 6 := by
      by_cases o : 6 ≤ nl
      · unfold pfA at z
        rw [if_pos ⟨hs, decide_eq_true o⟩] at z
        exact absurd (show (2 : Nat) = 0 from z) (by decide)
      · omega
    rw [decide_eq_true (show s.1 = 0 ∧ (pfA (decide (6 ≤ nl)) s).1 = 0 from ⟨hs, z⟩), if_neg (by decide)]
    refine x_takeNewName (kind := 146) (num := nl) hJ1 (HN.x69 x1) (h32 n6) (fun J2 M2 hJ2 hN2 x2 m2 => ?_)
    refine x_pass (k := 61) hJ2 (by decide) (by decide) (fun J3 hJ3 x3 => ?_)
    have e18 : J3 17 18 = nI c := by rw [x3.2 18 (by omega), x2.2 18 (by omega), x1.2 18 (by omega)]; exact h18
    have e13 : ∀ j, j < c → J3 13 j = C j := fun j hj => by rw [x3.1 13 (by decide), x2.1 13 (by decide) (by decide) (by decide), x1.1 13 (by decide)]; exact h13 j hj
    refine x_exp (c := c) (C := C) hJ3 (fun y => ?_) e18 e13 (fun J4 hJ4 x4 E4 => ?_)
    · obtain ⟨a1, a2, a3, a4, a5⟩ := la2_al (nl := nl) (N := N) (s := s) y
      show c + 3 ≤ (la2 B n N nl s).2.1
      omega
    refine x_pass (k := 59) hJ4 (by decide) (by decide) (fun J5 hJ5 x5 => ?_)
    rw [nI_clamp (by omega)]
    refine ⟨vp_in_nI (by omega) (by decide), ?_⟩
    have fr : ∀ q, q ≠ 13 → q ≠ 17 → q ≠ 22 → q ≠ 23 → q ≠ 24 → J5 q = I q := fun q a b c e f => by rw [x5.1 q b, x4.1 q a b f, x3.1 q b, x2.1 q b c e, x1.1 q b]
    have e9 : J5 9 3 = nI nl := by rw [fr 9 (by decide) (by decide) (by decide) (by decide) (by decide)]; exact h9
    have f17 : ∀ j, j < 6 ∨ (9 < j ∧ j ≠ 13 ∧ j < 15) → J5 17 j = I 17 j := fun j hj => by rw [x5.2 j (by omega), x4.2 j (by omega), x3.2 j (by omega), x2.2 j (by omega), x1.2 j (by omega)]
    have g14 : J5 14 = I 14 := fr 14 (by decide) (by decide) (by decide) (by decide) (by decide)
    rw [e9, nI_1]
    refine h _ M2 (cx_tab (cx_tab hJ5 (by decide) (by decide) (by decide) (by decide)) (by decide) (by decide) (by decide) (by decide)) ⟨fun q a b c e f g i => by rw [u_I_ne _ _ a, u_I_ne _ _ c]; exact fr q b e f g i, fun j hj => ?_, fun j hj => by rw [u_I_ne _ _ (by decide), u_I_ne _ _ (by decide)]; exact f17 j hj⟩ m2 (fun y => ?_)
    · simp only [u_I, if_true, if_neg hj]; simp; rw [fr 9 (by decide) (by decide) (by decide) (by decide) (by decide)]
    · have E4' := E4 (st_al y).1
      refine ⟨n6, cN_tab (cN_tab (((hN2.x69 x3).xe x4).x69 x5) (by decide) (by decide) (by decide)) (by decide) (by decide) (by decide), by simp [u_I], fun j hj => ?_, ?_, ?_, fun j hj => ?_⟩
      · rw [u_I_ne _ _ (show 14 ≠ 9 by decide)]; simp only [u_I, if_true, if_neg hj]; rw [g14]
      · rw [u_I_ne _ _ (show 14 ≠ 9 by decide)]; simp only [u_I, if_true]
        rw [x5.2 18 (by omega)]; exact E4'.2.2.1
      · rw [u_I_ne _ _ (show 17 ≠ 9 by decide), u_I_ne _ _ (show 17 ≠ 14 by decide), x5.2 18 (by omega)]; exact E4'.2.2.1
      · rw [u_I_ne _ _ (show 13 ≠ 9 by decide), u_I_ne _ _ (show 13 ≠ 14 by decide), x5.1 13 (by decide)]; exact E4'.2.2.2.2 j hj
  · rw [if_neg z] at h
    rw [decide_eq_false (fun c => z c.2), if_pos (by decide)]
    exact h J1 L hJ1 ⟨fun q _ _ _ c _ _ _ => x1.1 q c, fun j hj => by rw [x1.1 9 (by decide)], fun j hj => x1.2 j (by omega)⟩ (fun _ _ => rfl) (fun q => absurd q z)
