/-! read: a sit, in the reference, from its beginning -/
theorem od_dead {B : Nat → Nat} {n m : Nat} {N : nm_X} {R : Nat → Int32} {s : s4_X} (h : ¬ s.1 = 0) : ∀ k, (odL B n N k s m R).1 = s
  | 0 => rfl
  | k + 1 => by
    have e : orA B n N R 0 m s = s := by
      have eu : orU B n m s = s := by unfold orU; rw [if_neg (fun c => h c.2.1)]
      unfold orA
      rw [eu, tn_dead h, decide_eq_false (fun c => h c.1), Bool.false_and]; rfl
    rw [odL, e, if_neg h]
theorem od_lk {B : Nat → Nat} {n : Nat} {N : nm_X} : ∀ k m (R : Nat → Int32) (s : s4_X), (lok s → lok (odL B n N k s m R).1) ∧ ((odL B n N k s m R).1.1 = 0 → (odL B n N k s m R).1.2.2.1 = 0 → s.2.2.1 = 0)
  | 0, _, _, _ => ⟨fun h => h, fun _ h => h⟩
  | k + 1, m, R, s => by
    by_cases hs : s.1 = 0
    · rw [odL]
      by_cases z : (orA B n N R 0 m s).1 = 0
      · rw [if_pos z]
        obtain ⟨a1, a2, a3, a4, a5⟩ := or_al z
        have o1 : lok s → lok (orA B n N R 0 m s) := fun h => by rw [a5]; exact lok_la (lok_tn h) (fun _ => by rw [tn_tok a4]; omega)
        have o2 : (orA B n N R 0 m s).2.2.1 = 0 → s.2.2.1 = 0 := fun q => by rw [a5] at q; exact (tn_lf (la_lf (by decide) q).1).1
        by_cases c : foB B n 44 (orA B n N R 0 m s) = true
        · rw [if_pos c]
          obtain ⟨i1, i2⟩ := od_lk k (m + 1) (upd R (4 + m) (tnV B n N 140 s)) (paA B n 44 (orA B n N R 0 m s))
          refine ⟨fun h => i1 (lok_st (o1 h)), fun x y => o2 ?_⟩
          have := i2 x y
          rwa [show (paA B n 44 (orA B n N R 0 m s)).2.2 = (orA B n N R 0 m s).2.2 from st_lf] at this
        · rw [if_neg c]
          exact ⟨fun h => lok_pi (o1 h), fun _ y => o2 (by have q := y; rw [show (piA B n 44 (orA B n N R 0 m s)).2.2 = (orA B n N R 0 m s).2.2 from pi_lf] at q; exact q)⟩
      · rw [if_neg z]
        exact ⟨fun _ c => absurd c z, fun c => absurd c z⟩
    · rw [od_dead hs]
      exact ⟨fun h => h, fun c => absurd c hs⟩
theorem m_sit {d sd q c ns : Nat} {B : Nat → Nat} {n : Nat} {J : st_I} {M : st_L} {s : s4_X} {N : nm_X} {F : st_I → st_L → Prop} (hsd : sd ≤ 1) (hq : q < 4) (hns : ns < 12) (H : rr B n J M s) (hl : lok s) (HN : rN B n J M N c s.2.2.1) (hs : s.1 = 0) (hk : knF B n s.2.1 = 148) (h19 : J 58 19 = nI sd) (h82 : J 82 sd = nI q) (h83 : J 83 (4 * sd + q) = nI ns)
    (h : ∀ K, rr B n K M (siS B n N ns s) → ms_X (4 * sd + q) (12 * (4 * sd + q) + ns) J K → ((siS B n N ns s).1 = 0 → K 83 (4 * sd + q) = nI (ns + 1) ∧ rQ K (12 * (4 * sd + q) + ns) (siX B n N ns s).2.1 (siX B n N ns s).2.2 (siS B n N ns s).2.2.1) → F K M) : EV (d + 4) mX12_tellSit [.ref 58] J M F := by
  have vs : vp_in (nI sd) 2 := vp_in_nI (by omega) (by decide)
  have ep1 : si1 ns s = stA true s := pf_no (decide_eq_false (by omega))
  refine sgX12_tellSit_0 ?_
  rw [h19, nI_clamp (by omega), h82, show (4 : Int32) * nI sd + nI q = nI (4 * sd + q) from mx 4 sd q, nI_clamp (show 4 * sd + q < 2 ^ 31 by omega), h83, show (12 : Int32) * nI (4 * sd + q) + nI ns = nI (12 * (4 * sd + q) + ns) from mx 12 (4 * sd + q) ns]
  generalize hp : 4 * sd + q = p at *
  have hp8 : p < 8 := by omega
  generalize hg : 12 * p + ns = g at *
  have hg96 : g < 96 := by omega
  have vp8 : vp_in (nI p) 8 := vp_in_nI hp8 (by decide)
  have vg : vp_in (nI g) 96 := vp_in_nI hg96 (by decide)
  rw [nI_clamp (show g < 2 ^ 31 by omega)]
  refine ⟨vs, vp8, m_goesOn H hs (by omega) (fun K1 hK1 x1 => ?_)⟩
  rw [← ep1] at hK1
  have l1 : lok (si1 ns s) := by rw [ep1]; exact lok_st hl
  have HN1 : rN B n K1 M N c (si1 ns s).2.2.1 := rN_lf (HN.r58 x1) (fun z => by rw [ep1, show (stA true s).2.2 = s.2.2 from st_lf] at z; exact z)
  refine m_known (kind := 143) hK1 l1 HN1 (Or.inr (Or.inl rfl)) (fun K2 v2 hK2 x2 e2 => ⟨vg, ?_⟩)
  have y2 : ms_X p g J (u_I K2 84 g v2) := ((x1.tr x2).ms).tr (ms_84 (by decide) (by decide))
  have HN2 : rN B n (u_I K2 84 g v2) M N c (tnA B n N 143 (si1 ns s)).2.2.1 := rN_tab (rN_lf (HN1.r58 x2) (fun z => (tn_lf z).1)) (by decide)
  refine m_must (k := 149) (rr_tab hK2 (by decide)) (by decide) (by decide) (by decide) (by decide) (fun K3 hK3 x3 => ?_)
  have es3 : paA B n 149 (tnA B n N 143 (si1 ns s)) = si3 B n N ns s := rfl
  rw [es3] at hK3
  have y3 := y2.tr x3.ms
  have lf3 : (si3 B n N ns s).2.2.1 = 0 → (tnA B n N 143 (si1 ns s)).2.2.1 = 0 := fun z => by rw [← es3, show (paA B n 149 (tnA B n N 143 (si1 ns s))).2.2 = (tnA B n N 143 (si1 ns s)).2.2 from st_lf] at z; exact z
  have HN3 : rN B n K3 M N c (si3 B n N ns s).2.2.1 := rN_lf (HN2.r58 x3) lf3
  have l3 : lok (si3 B n N ns s) := by rw [← es3]; exact lok_st (lok_tn l1)
  have eS : siS B n N ns s = paA B n 59 (siX B n N ns s).1 := by
    unfold siS
    by_cases z : (si1 ns s).1 = 0
    · rw [if_pos z]
    · rw [if_neg z]
      have q3 : si3 B n N ns s = si1 ns s := by rw [← es3, tn_dead z]; exact st_dead z
      have q4 : si4 B n N ns s = si1 ns s := by unfold si4; rw [q3]; exact tn_dead z
      have q6 : si6 B n N ns s = si1 ns s := by unfold si6; rw [q4, pi_dead z]; exact st_dead z
      have qX : (siX B n N ns s).1 = si1 ns s := by unfold siX; rw [q6]; exact od_dead z 7
      rw [qX]; exact (st_dead z).symm
  -- a FAULT ahead of the FIDDLES
  have dead : ∀ (w : s4_X) (K : st_I), ¬ w.1 = 0 → si6 B n N ns s = w → rr B n K M w → ms_X p g J K → F K M := by
    intro w K z e hK hx
    have q : siS B n N ns s = w := by rw [eS]; unfold siX; rw [e, od_dead z]; exact st_dead z
    refine h K (by rw [q]; exact hK) hx (fun c => ?_)
    rw [q] at c; exact absurd c z
  by_cases z3 : (si3 B n N ns s).1 = 0
  · rw [if_pos (show K3 58 13 ≤ 0 by rw [hK3.2.2.2.1, z3]; decide)]
    refine m_known (kind := 145) hK3 l3 HN3 (Or.inr (Or.inr (Or.inl rfl))) (fun K4 v4 hK4 x4 e4 => ⟨vg, ?_⟩)
    have es4 : tnA B n N 145 (si3 B n N ns s) = si4 B n N ns s := rfl
    rw [es4] at hK4 e4
    have y4 : ms_X p g J (u_I K4 85 g v4) := (y3.tr x4.ms).tr (ms_84 (by decide) (by decide))
    have H4 : rr B n (u_I K4 85 g v4) M (si4 B n N ns s) := rr_tab hK4 (by decide)
    have HN4 : rN B n (u_I K4 85 g v4) M N c (si4 B n N ns s).2.2.1 := rN_tab (rN_lf (HN3.r58 x4) (fun z => (tn_lf z).1)) (by decide)
    refine m_is (k := 136) H4 (by decide) (by decide) (by decide) ?_
    rw [nar_b01]
    refine ⟨vg, ?_⟩
    have l4 : lok (si4 B n N ns s) := lok_tn l3
    generalize hb : decide ((si4 B n N ns s).1 = 0 ∧ knF B n (si4 B n N ns s).2.1 = 136) = b at *
    have H5 : rr B n (u_I (u_I K4 85 g v4) 86 g (b01 b)) M (si4 B n N ns s) := rr_tab H4 (by decide)
    have y5 : ms_X p g J (u_I (u_I K4 85 g v4) 86 g (b01 b)) := y4.tr (ms_84 (by decide) (by decide))
    have HN5 : rN B n (u_I (u_I K4 85 g v4) 86 g (b01 b)) M N c (si4 B n N ns s).2.2.1 := rN_tab HN4 (by decide)
    -- from the ':' on
    have fin : ∀ K, rr B n K M (piA B n 136 (si4 B n N ns s)) → r58 (u_I (u_I K4 85 g v4) 86 g (b01 b)) K → TV (d + 4) mX12_tellSit 101 [.ref 58, .int (nI p), .int (nI g), .null, .null, .null, .null] [] K M F := by
      intro K hK xK
      refine sgX12_tellSit_101 (m_must (k := 58) hK (by decide) (by decide) (by decide) (by decide) (fun K6 hK6 x6 => ⟨vg, ?_⟩))
      have es6 : paA B n 58 (piA B n 136 (si4 B n N ns s)) = si6 B n N ns s := rfl
      rw [es6] at hK6
      have x56 := xK.tr x6
      have y6 : ms_X p g J (u_I K6 87 g 0) := (y5.tr x56.ms).tr (ms_84 (by decide) (by decide))
      have H6 : rr B n (u_I K6 87 g 0) M (si6 B n N ns s) := rr_tab hK6 (by decide)
      have lf6 : (si6 B n N ns s).2.2.1 = 0 → (si4 B n N ns s).2.2.1 = 0 := fun z => by
        rw [← es6, show (paA B n 58 (piA B n 136 (si4 B n N ns s))).2.2 = (piA B n 136 (si4 B n N ns s)).2.2 from st_lf, show (piA B n 136 (si4 B n N ns s)).2.2 = (si4 B n N ns s).2.2 from pi_lf] at z; exact z
      rw [nI_clamp (show g < 2 ^ 31 by omega)]
      by_cases z6 : (si6 B n N ns s).1 = 0
      · rw [if_pos (show K6 58 13 = 0 by rw [hK6.2.2.2.1, z6]; exact nI_0)]
        have z5 : (piA B n 136 (si4 B n N ns s)).1 = 0 := by rw [← es6] at z6; exact (st_al z6).1
        have z4 : (si4 B n N ns s).1 = 0 := pi_al z5
        have z2 : (tnA B n N 143 (si1 ns s)).1 = 0 := by rw [← es3] at z3; exact (st_al z3).1
        have eb : b = foB B n 136 (si4 B n N ns s) := by
          rw [← hb]
          unfold foB
          refine decide_eq_decide.mpr ⟨fun c => ⟨c.1, c.2, ?_⟩, fun c => ⟨c.1, c.2.1⟩⟩
          unfold piA at z5; rw [if_pos c.2] at z5; exact z5
        have eX : siX B n N ns s = odL B n N (6 + 1) (si6 B n N ns s) 0 (siR B n N ns s) := rfl
        refine m_ord_126 (c := c) (ns := ns) (J0 := J) hg96 hp8 6 0 (siR B n N ns s) (si6 B n N ns s) _ (by omega) H6 (by rw [← es6]; exact lok_st (lok_pi l4)) (rN_tab (rN_lf (HN5.r58 x56) lf6) (by decide)) z6 y6 ?_ ⟨by simp [u_I]; rfl, fun z => ?_⟩ (fun K7 hK7 y7 q7 => ?_)
        · rw [u_I_ne _ _ (by decide), x56.1 83 (by decide), u_I_ne _ _ (by decide), u_I_ne _ _ (by decide), x4.1 83 (by decide), x3.1 83 (by decide), u_I_ne _ _ (by decide), x2.1 83 (by decide), x1.1 83 (by decide)]; exact h83
        · have f4 := lf6 z
          have f3 := (tn_lf (B := B) (n := n) (N := N) (k := 145) (s := si3 B n N ns s) f4).1
          have f1 := (tn_lf (lf3 f3)).1
          refine ⟨?_, ?_, ?_, fun i hi => absurd hi (Nat.not_lt_zero _)⟩
          · rw [u_I_ne _ _ (by decide), x56.1 84 (by decide), u_I_ne _ _ (by decide), u_I_ne _ _ (by decide), x4.1 84 (by decide), x3.1 84 (by decide)]
            simp only [u_I, if_true]
            exact e2 z2 f1
          · rw [u_I_ne _ _ (by decide), x56.1 85 (by decide), u_I_ne _ _ (by decide)]
            simp only [u_I, if_true]
            exact e4 z4 f3
          · rw [u_I_ne _ _ (by decide), x56.1 86 (by decide), eb]
            simp only [u_I, if_true]
            rfl
        · rw [eS] at h
          rw [← eX] at hK7 q7
          exact h K7 hK7 y7 q7
      · have nz : ¬ K6 58 13 = 0 := by rw [hK6.2.2.2.1]; exact nI_ne0 (Nat.pos_of_ne_zero z6) (by have := hK6.2.2.2.2.1; omega)
        rw [if_neg nz]
        refine sgX12_tellSit_126 ?_
        rw [if_pos rfl]
        refine m_must (k := 59) H6 (by decide) (by decide) (by decide) (by decide) (fun K7 hK7 x7 => ?_)
        rw [show paA B n 59 (si6 B n N ns s) = si6 B n N ns s from st_dead z6] at hK7
        rw [if_neg (by rw [hK7.2.2.2.1]; exact nI_ne0 (Nat.pos_of_ne_zero z6) (by have := hK7.2.2.2.2.1; omega))]
        exact dead _ K7 z6 rfl hK7 (y6.tr x7.ms)
    rw [H4.2.2.2.1]
    by_cases z4 : (si4 B n N ns s).1 = 0
    · rw [if_pos (by rw [z4]; exact nI_0)]
      refine m_is (k := 136) H5 (by decide) (by decide) (by decide) ?_
      rw [hb]
      by_cases y : knF B n (si4 B n N ns s).2.1 = 136
      · rw [← hb, decide_eq_true (show (si4 B n N ns s).1 = 0 ∧ _ from ⟨z4, y⟩), if_neg (by decide)]
        rw [← hb, decide_eq_true (show (si4 B n N ns s).1 = 0 ∧ knF B n (si4 B n N ns s).2.1 = 136 from ⟨z4, y⟩)] at H5 fin
        refine m_goesOn H5 z4 (by omega) (fun K5 hK5 x5 => fin K5 ?_ x5)
        have e : piA B n 136 (si4 B n N ns s) = stA true (si4 B n N ns s) := by unfold piA paA; rw [if_pos y, decide_eq_true y]
        rw [e]; exact hK5
      · rw [← hb, decide_eq_false (fun c => y c.2), if_pos (by decide)]
        rw [← hb, decide_eq_false (fun c => y c.2)] at H5 fin
        refine fin _ ?_ r58.rf
        have e : piA B n 136 (si4 B n N ns s) = si4 B n N ns s := by unfold piA; rw [if_neg y]
        rw [e]; exact H5
    · rw [if_neg (nI_ne0 (Nat.pos_of_ne_zero z4) (by have := H4.2.2.2.2.1; omega))]
      refine fin _ ?_ r58.rf
      rw [pi_dead z4]; exact H5
  · rw [if_neg (show ¬ K3 58 13 ≤ 0 by rw [hK3.2.2.2.1]; exact nI_nle (Nat.pos_of_ne_zero z3) (by have := hK3.2.2.2.2.1; omega))]
    have q4 : si4 B n N ns s = si3 B n N ns s := tn_dead z3
    have q6 : si6 B n N ns s = si3 B n N ns s := by unfold si6; rw [q4, pi_dead z3]; exact st_dead z3
    exact dead _ K3 z3 q6 hK3 y3
