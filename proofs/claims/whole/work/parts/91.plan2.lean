/-! read: a PLAN's tell, in the reference -/
theorem si_lk {B : Nat → Nat} {n ns : Nat} {N : nm_X} {s : s4_X} : (lok s → lok (siS B n N ns s)) ∧ ((siS B n N ns s).1 = 0 → (siS B n N ns s).2.2.1 = 0 → s.2.2.1 = 0) := by
  refine ⟨fun h => ?_, fun z q => ?_⟩
  · unfold siS
    split
    · exact lok_st ((od_lk 7 0 _ _).1 (lok_st (lok_pi (lok_tn (lok_st (lok_tn (lok_pf h)))))))
    · exact lok_pf h
  · obtain ⟨a1, a2, a3, a4⟩ := si_al z
    rw [a4, show (paA B n 59 (siX B n N ns s).1).2.2 = (siX B n N ns s).1.2.2 from st_lf] at q
    have q6 := (od_lk 7 0 _ _).2 a3 q
    have q4 : (si4 B n N ns s).2.2.1 = 0 := by
      have : (si6 B n N ns s).2.2 = (si4 B n N ns s).2.2 := by unfold si6; exact (st_lf).trans pi_lf
      rw [this] at q6; exact q6
    have q3 : (si3 B n N ns s).2.2.1 = 0 := (tn_lf q4).1
    have q2 : (tnA B n N 143 (si1 ns s)).2.2.1 = 0 := by
      have : (si3 B n N ns s).2.2 = (tnA B n N 143 (si1 ns s)).2.2 := st_lf
      rw [this] at q3; exact q3
    have q1 := (tn_lf q2).1
    rw [show (si1 ns s).2.2 = s.2.2 from pf_lf] at q1
    exact q1
/-- frame of a PLAN's tell in the reference: p = 4 side + plan -/
def mp (sd p : Nat) (I J : st_I) : Prop := (∀ q, q < 58 ∨ (58 < q ∧ q < 67) ∨ (68 < q ∧ q < 82) ∨ 88 < q → J q = I q) ∧ (∀ j, j ≠ 11 → j ≠ 20 → j < 13 ∨ 16 < j → J 58 j = I 58 j) ∧ (∀ j, j ≠ sd → J 82 j = I 82 j) ∧ (∀ j, j ≠ p → J 83 j = I 83 j) ∧ (∀ j, j < 12 * p ∨ 12 * p + 12 ≤ j → J 84 j = I 84 j ∧ J 85 j = I 85 j ∧ J 86 j = I 86 j ∧ J 87 j = I 87 j) ∧ ∀ j, j < 72 * p ∨ 72 * p + 72 ≤ j → J 88 j = I 88 j
theorem mp.tr {sd p : Nat} {I J K : st_I} (h : mp sd p I J) (k : mp sd p J K) : mp sd p I K := ⟨fun q a => (k.1 q a).trans (h.1 q a), fun j a b c => (k.2.1 j a b c).trans (h.2.1 j a b c), fun j a => (k.2.2.1 j a).trans (h.2.2.1 j a), fun j a => (k.2.2.2.1 j a).trans (h.2.2.2.1 j a), fun j a => by
  obtain ⟨x1, x2, x3, x4⟩ := h.2.2.2.2.1 j a
  obtain ⟨y1, y2, y3, y4⟩ := k.2.2.2.2.1 j a
  exact ⟨y1.trans x1, y2.trans x2, y3.trans x3, y4.trans x4⟩, fun j a => (k.2.2.2.2.2 j a).trans (h.2.2.2.2.2 j a)⟩
theorem ms_X.mp {sd p k : Nat} {I J : st_I} (h : ms_X p (12 * p + k) I J) (hk : k < 12) : mp sd p I J := ⟨fun q a => h.1 q (by omega), fun j a _ b => h.2.1 j a b, fun j _ => by rw [h.1 82 (by omega)], h.2.2.1, fun j a => h.2.2.2.1 j (by omega), fun j a => h.2.2.2.2 j (by omega)⟩
theorem r58.mp {sd p : Nat} {I J : st_I} (h : r58 I J) : mp sd p I J := (h.ms (p := p) (g := 12 * p + 0)).mp (by decide)
theorem x66.mp {sd p : Nat} {I J : st_I} (h : x66 I J) : mp sd p I J := ⟨fun q a => h.1 q (by omega) (by omega) (by omega), fun j a b c => h.2 j a b c, fun j _ => by rw [h.1 82 (by decide) (by decide) (by decide)], fun j _ => by rw [h.1 83 (by decide) (by decide) (by decide)], fun j _ => by rw [h.1 84 (by decide) (by decide) (by decide), h.1 85 (by decide) (by decide) (by decide), h.1 86 (by decide) (by decide) (by decide), h.1 87 (by decide) (by decide) (by decide)]; exact ⟨rfl, rfl, rfl, rfl⟩, fun j _ => by rw [h.1 88 (by decide) (by decide) (by decide)]⟩
theorem mp_83 {sd p : Nat} {I : st_I} {x : Int32} : mp sd p I (u_I I 83 p x) := (ms_83 (p := p) (g := 12 * p + 0)).mp (by decide)
theorem mp_82 {sd p : Nat} {I : st_I} {x : Int32} : mp sd p I (u_I I 82 sd x) := ⟨fun q a => by rw [u_I_ne _ _ (by omega)], fun j _ _ _ => by rw [u_I_ne _ _ (by decide)], fun j a => by simp only [u_I, if_true, if_neg a], fun j _ => by rw [u_I_ne _ _ (by decide)], fun j _ => by rw [u_I_ne _ _ (by decide), u_I_ne _ _ (by decide), u_I_ne _ _ (by decide), u_I_ne _ _ (by decide)]; exact ⟨rfl, rfl, rfl, rfl⟩, fun j _ => by rw [u_I_ne _ _ (by decide)]⟩
theorem rQ.ms {J K : st_I} {p g g' m lf : Nat} {R : Nat → Int32} (H : rQ J g' m R lf) (h : ms_X p g J K) (hg : g' ≠ g) (hm : m ≤ 6) : rQ K g' m R lf := by
  obtain ⟨x1, x2, x3, x4⟩ := h.2.2.2.1 g' hg
  refine ⟨by rw [x4]; exact H.1, fun z => ?_⟩
  obtain ⟨y1, y2, y3, y4⟩ := H.2 z
  exact ⟨by rw [x1]; exact y1, by rw [x2]; exact y2, by rw [x3]; exact y3, fun i hi => by rw [h.2.2.2.2 _ (by omega)]; exact y4 i hi⟩
theorem rN.ms {B : Nat → Nat} {n p g c lf : Nat} {J K : st_I} {M : st_L} {N : nm_X} (H : rN B n J M N c lf) (h : ms_X p g J K) : rN B n K M N c lf := by
  unfold rN
  rw [h.2.1 20 (by decide) (by omega), h.1 67 (by omega), h.1 68 (by omega)]; exact H
/-- what is KNOWN of the sits so far -/
def plQ (B : Nat → Nat) (n : Nat) (N : nm_X) (p : Nat) (s0 : s4_X) (J : st_I) (ns lf : Nat) : Prop := ∀ j, j < ns → rQ J (12 * p + j) (siX B n N j (stS B n N s0 j)).2.1 (siX B n N j (stS B n N s0 j)).2.2 lf
theorem m_plan_60 {d sd q c : Nat} {B : Nat → Nat} {n : Nat} {M : st_L} {N : nm_X} {s0 : s4_X} {F : st_I → st_L → Prop} {J0 : st_I} (hsd : sd ≤ 1) (hq : q < 4) : ∀ (k ns : Nat) (J : st_I) (s : s4_X), k + ns = 13 → rr B n J M s → lok s → (s.1 = 0 → rN B n J M N c s.2.2.1) → mp sd (4 * sd + q) J0 J → J 58 19 = nI sd → J 82 sd = nI q → (s.1 = 0 → s = stS B n N s0 ns ∧ ns ≤ 12 ∧ J 83 (4 * sd + q) = nI ns ∧ plQ B n N (4 * sd + q) s0 J ns s.2.2.1) → (∀ K, rr B n K M (paA B n 125 (slL B n N k s ns).1) → mp sd (4 * sd + q) J0 K → ((paA B n 125 (slL B n N k s ns).1).1 = 0 → rN B n K M N c (paA B n 125 (slL B n N k s ns).1).2.2.1 ∧ K 82 sd = nI (q + 1) ∧ K 83 (4 * sd + q) = nI (slL B n N k s ns).2 ∧ plQ B n N (4 * sd + q) s0 K (slL B n N k s ns).2 (paA B n 125 (slL B n N k s ns).1).2.2.1) → F K M) → TV (d + 5) mX12_tellPlan 60 [.ref 58, .null] [] J M F := by
  have vs : vp_in (nI sd) 2 := vp_in_nI (by omega) (by decide)
  -- the '}'
  have last : ∀ (w : s4_X) (ns : Nat) (J : st_I), rr B n J M w → (w.1 = 0 → rN B n J M N c w.2.2.1) → mp sd (4 * sd + q) J0 J → J 58 19 = nI sd → J 82 sd = nI q → (w.1 = 0 → J 83 (4 * sd + q) = nI ns ∧ plQ B n N (4 * sd + q) s0 J ns w.2.2.1) → (∀ K, rr B n K M (paA B n 125 w) → mp sd (4 * sd + q) J0 K → ((paA B n 125 w).1 = 0 → rN B n K M N c (paA B n 125 w).2.2.1 ∧ K 82 sd = nI (q + 1) ∧ K 83 (4 * sd + q) = nI ns ∧ plQ B n N (4 * sd + q) s0 K ns (paA B n 125 w).2.2.1) → F K M) → TV (d + 5) mX12_tellPlan 121 [.ref 58, .null] [] J M F := by
    intro w ns J hJ hN hx h19 h82 hQ hF
    refine sgX12_tellPlan_121 (m_must (k := 125) hJ (by decide) (by decide) (by decide) (by decide) (fun K hK x1 => ?_))
    by_cases z : (paA B n 125 w).1 = 0
    · have z0 := (st_al z).1
      have e : (paA B n 125 w).2.2 = w.2.2 := st_lf
      rw [show K 58 13 = 0 by rw [hK.2.2.2.1, z]; exact nI_0, if_pos rfl, x1.2 19 (by decide) (by omega), h19, nI_clamp (by omega), x1.1 82 (by decide), h82, nI_1]
      refine ⟨vs, vs, hF _ (rr_tab hK (by decide)) ((hx.tr x1.mp).tr mp_82) (fun _ => ⟨?_, by simp [u_I], ?_, ?_⟩)⟩
      · rw [e]; exact rN_tab ((hN z0).r58 x1) (by decide)
      · rw [u_I_ne _ _ (by decide), x1.1 83 (by decide)]; exact (hQ z0).1
      · rw [e]
        intro j hj
        have := (((hQ z0).2 j hj).r58 x1)
        unfold rQ
        rw [u_I_ne _ _ (show 84 ≠ 82 by decide), u_I_ne _ _ (show 85 ≠ 82 by decide), u_I_ne _ _ (show 86 ≠ 82 by decide), u_I_ne _ _ (show 87 ≠ 82 by decide), u_I_ne _ _ (show 88 ≠ 82 by decide)]
        exact this
    · rw [if_neg (by rw [hK.2.2.2.1]; exact nI_ne0 (Nat.pos_of_ne_zero z) (by have := hK.2.2.2.2.1; omega))]
      exact hF K hK (hx.tr x1.mp) (fun c => absurd c z)
  -- a FAULT
  have dead : ∀ (w : s4_X) (ns : Nat) (J : st_I), ¬ w.1 = 0 → rr B n J M w → mp sd (4 * sd + q) J0 J → J 58 19 = nI sd → J 82 sd = nI q → (∀ K, rr B n K M (paA B n 125 w) → mp sd (4 * sd + q) J0 K → ((paA B n 125 w).1 = 0 → rN B n K M N c (paA B n 125 w).2.2.1 ∧ K 82 sd = nI (q + 1) ∧ K 83 (4 * sd + q) = nI ns ∧ plQ B n N (4 * sd + q) s0 K ns (paA B n 125 w).2.2.1) → F K M) → TV (d + 5) mX12_tellPlan 60 [.ref 58, .null] [] J M F := by
    intro w ns J z hJ hx h19 h82 hF
    refine sgX12_tellPlan_60 ?_
    rw [if_neg (by rw [hJ.2.2.2.1]; exact nI_ne0 (Nat.pos_of_ne_zero z) (by have := hJ.2.2.2.2.1; omega))]
    exact last w ns J hJ (fun c => absurd c z) hx h19 h82 (fun c => absurd c z) hF
  intro k
  induction k with
  | zero =>
    intro ns J s hk H hl HN hx h19 h82 hR hF
    by_cases z : s.1 = 0
    · have := (hR z).2.1; omega
    · exact dead s ns J z H hx h19 h82 hF
  | succ k ih =>
    intro ns J s hk H hl HN hx h19 h82 hR hF
    by_cases z : s.1 = 0
    · obtain ⟨r1, r2, r3, r4⟩ := hR z
      rw [slL] at hF
      refine sgX12_tellPlan_60 ?_
      rw [if_pos (show J 58 13 = 0 by rw [H.2.2.2.1, z]; exact nI_0)]
      refine m_is (k := 148) H (by decide) (by decide) (by decide) ?_
      by_cases y : knF B n s.2.1 = 148
      · rw [if_pos ⟨z, y⟩] at hF
        rw [decide_eq_true (show s.1 = 0 ∧ knF B n s.2.1 = 148 from ⟨z, y⟩), if_neg (by decide), h19, nI_clamp (by omega), h82, show (4 : Int32) * nI sd + nI q = nI (4 * sd + q) from mx 4 sd q, nI_clamp (show 4 * sd + q < 2 ^ 31 by omega), r3]
        refine ⟨vs, vp_in_nI (by omega) (by decide), ?_⟩
        by_cases full : 12 ≤ ns
        · rw [if_pos (by rw [show ns = 12 by omega]; rfl)]
          refine m_fail (k := 2) H (by decide) (by decide) (fun K hK x1 => ?_)
          have ef : fiA 2 s = (2, s.2) := by unfold fiA; rw [if_pos z]
          rw [ef] at hK
          have e1 : si1 ns s = (2, s.2) := pf_full (decide_eq_true full) z
          have eS : siS B n N ns s = (2, s.2) := by unfold siS; rw [e1, if_neg (show ¬ (2 : Nat) = 0 by decide)]
          have d2 : ¬ ((2, s.2) : s4_X).1 = 0 := (show ¬ (2 : Nat) = 0 by decide)
          rw [eS, if_neg d2] at hF
          refine sgX12_tellPlan_107 ?_
          rw [if_neg (by rw [hK.2.2.2.1]; exact nI_ne0 (show 0 < 2 by decide) (show 2 < 2 ^ 31 by decide))]
          exact dead (2, s.2) ns K d2 hK (hx.tr x1.mp) (by rw [x1.2 19 (by decide) (by omega)]; exact h19) (by rw [x1.1 82 (by decide)]; exact h82) hF
        · rw [if_neg (fun c => full (by have := (nI_eq (b := 12) (by omega) (by decide)).mp c; omega))]
          refine sgX12_tellPlan_107 ?_
          rw [if_pos (show J 58 13 = 0 by rw [H.2.2.2.1, z]; exact nI_0)]
          refine m_sit (q := q) hsd hq (by omega) H hl (HN z) z y h19 h82 r3 (fun K hK xK gg => ?_)
          have k19 : K 58 19 = nI sd := by rw [xK.2.1 19 (by decide) (by omega)]; exact h19
          have k82 : K 82 sd = nI q := by rw [xK.1 82 (by omega)]; exact h82
          have xx := hx.tr (xK.mp (sd := sd) (by omega))
          by_cases w : (siS B n N ns s).1 = 0
          · rw [if_pos w] at hF
            have lk := si_lk (B := B) (n := n) (ns := ns) (N := N) (s := s)
            obtain ⟨g1, g2⟩ := gg w
            refine ih (ns + 1) K _ (by omega) hK (lk.1 hl) (fun _ => rN_lf ((HN z).ms xK) (fun a => lk.2 w a)) xx k19 k82 (fun _ => ⟨by rw [stS, ← r1], by omega, g1, fun j hj => ?_⟩) hF
            by_cases e : j = ns
            · subst e; rw [← r1]; exact g2
            · have m6 := (odL_m 6 _ 0 _ (by omega) (stS_ok (B := B) (n := n) (N := N) (s := s0) ns (by rw [← r1]; exact z) j (by omega)).1).2
              exact ((r4 j (by omega)).ms xK (by omega) m6).lf (fun a => lk.2 w a)
          · rw [if_neg w] at hF
            exact dead _ ns K w hK xx k19 k82 hF
      · rw [if_neg (fun c => y c.2)] at hF
        rw [decide_eq_false (fun c => y c.2), if_pos (by decide)]
        exact last s ns J H HN hx h19 h82 (fun _ => ⟨r3, r4⟩) hF
    · rw [slL, if_neg (fun c => z c.1)] at hF
      exact dead s ns J z H hx h19 h82 hF
