/-! read: a BOW's tell, in the reference, as a whole -/
theorem m_bow {d sd nb c : Nat} {B : Nat → Nat} {n : Nat} {J : st_I} {M : st_L} {s : s4_X} {N : nm_X} {F : st_I → st_L → Prop} (hsd : sd ≤ 1) (hnb : nb ≤ 4) (hc : c < 39) (H : rr B n J M s) (hl : lok s) (HN : rN B n J M N c s.2.2.1) (hs : s.1 = 0) (hk : knF B n s.2.1 = 145) (h19 : J 58 19 = nI sd) (h77 : J 77 sd = nI nb)
    (h : ∀ K M', rr B n K M' (boS B n N nb s) → mb sd (12 * sd + 3 * nb) J K → (∀ q, q ≠ 66 → M' q = M q) → ((boS B n N nb s).1 = 0 → rN B n K M' (nwN B n N (pfA (decide (4 ≤ nb)) s) 145 nb) (c + 1) (boS B n N nb s).2.2.1 ∧ K 77 sd = nI (nb + 1) ∧ K 78 (12 * sd + 3 * nb) = boV B n (bo2 B n N nb s) ∧ K 78 (12 * sd + 3 * nb + 1) = boV B n (boU B n (bo2 B n N nb s)) ∧ K 78 (12 * sd + 3 * nb + 2) = boV B n (boU B n (boU B n (bo2 B n N nb s)))) → F K M') : EV (d + 6) mX12_tell [.ref 58] J M F := by
  obtain ⟨l1, l2, l3, l4, l5, l6, l7⟩ := H.lt
  have vs : vp_in (nI sd) 2 := vp_in_nI (by omega) (by decide)
  refine sgX12_tell_0 ?_
  rw [l3, nI_clamp (by omega), l4, h19, nI_clamp (show sd < 2 ^ 31 by omega), hk]
  refine ⟨l2, ?_⟩
  rw [if_neg (by decide), if_neg (by decide), if_neg (by decide), if_pos (by decide), h77]
  refine ⟨vs, ?_⟩
  by_cases full : 4 ≤ nb
  · have e8 : nb = 4 := by omega
    rw [if_pos (by rw [e8]; rfl)]
    have ep : pfA (decide (4 ≤ nb)) s = (2, s.2) := pf_full (decide_eq_true full) hs
    have ef : boS B n N nb s = (2, s.2) := by
      unfold boS; rw [ep, if_neg (show ¬ (2 : Nat) = 0 by decide)]
    rw [ef] at h
    refine m_fail (k := 2) H (by decide) (by decide) (fun K hK hx => ?_)
    have eq : fiA 2 s = (2, s.2) := by unfold fiA; rw [if_pos hs]
    rw [eq] at hK
    refine sgX12_tell_144 ?_
    rw [if_neg (show ¬ K 58 13 = 0 by rw [hK.2.2.2.1]; exact nI_ne0 (show 0 < 2 by decide) (show 2 < 2 ^ 31 by decide))]
    exact h K M hK hx.mb (fun _ _ => rfl) (fun q => absurd (show (2 : Nat) = 0 from q) (by decide))
  · rw [if_neg (fun q => full (by have := (nI_eq (b := 4) (by omega) (by decide)).mp q; omega))]
    have ep : pfA (decide (4 ≤ nb)) s = stA true s := pf_no (decide_eq_false full)
    refine sgX12_tell_144 ?_
    rw [if_pos (show J 58 13 = 0 by rw [H.2.2.2.1, hs]; exact nI_0)]
    refine sgX12_tellBow_0 ?_
    rw [h19, nI_clamp (by omega), h77, show (12 : Int32) * nI sd + 3 * nI nb = nI (12 * sd + 3 * nb) by rw [show (12 : Int32) = nI 12 from rfl, show (3 : Int32) = nI 3 from rfl, pk_mul, pk_mul, nI_add]]
    refine ⟨vs, m_goesOn H hs (by omega) (fun K1 hK1 x1 => ?_)⟩
    have HN1 : rN B n K1 M N c (stA true s).2.2.1 := rN_lf (HN.r58 x1) (fun q => by rw [show (stA true s).2.2 = s.2.2 from st_lf] at q; exact q)
    refine m_named hK1 (lok_st hl) HN1 (fun K2 hK2 x2 => ?_)
    have eu : nwA B n N (stA true s) = bo2 B n N nb s := by unfold bo2; rw [ep]
    rw [eu] at hK2
    have lu : lok (bo2 B n N nb s) := by rw [← eu]; exact lok_nw (lok_st hl)
    have lob : ∀ u, lok u → lok (boU B n u) := fun u q => lok_in (lok_pi q)
    have efi : boS B n N nb s = paA B n 59 (boU B n (boU B n (boU B n (bo2 B n N nb s)))) := by
      unfold boS
      rw [ep]
      by_cases z : (stA true s).1 = 0
      · rw [if_pos z]
      · have e2 : bo2 B n N nb s = stA true s := by rw [← eu]; exact nw_dead z
        rw [if_neg z, e2, bo_dead z, bo_dead z, bo_dead z]
        exact (st_dead z).symm
    rw [efi, ep] at h
    have x12 := x1.tr x2
    have HN2 : rN B n K2 M N c (bo2 B n N nb s).2.2.1 := rN_lf (HN1.r58 x2) (fun q => by rw [← eu] at q; exact (nw_lf q).1)
    refine m_bow_1 (d := d + 1) (i := 0) (by omega) (by decide) hK2 lu (fun K3 y3 hK3 x3 e3 => ?_)
    refine m_bow_1 (d := d + 1) (i := 0 + 1) (by omega) (by decide) (rr_tab hK3 (by decide)) (lob _ lu) (fun K4 y4 hK4 x4 e4 => ?_)
    refine m_bow_1 (d := d + 1) (i := 0 + 1 + 1) (by omega) (by decide) (rr_tab hK4 (by decide)) (lob _ (lob _ lu)) (fun K5 y5 hK5 x5 e5 => ?_)
    refine sgX12_tellBow_31 ?_
    rw [if_pos (by decide)]
    have f6 : mb sd (12 * sd + 3 * nb) J (u_I K5 78 (12 * sd + 3 * nb + (0 + 1 + 1)) y5) := (((((x12.mb.tr x3.mb).tr (mb_78 (i := 0) (by decide))).tr x4.mb).tr (mb_78 (i := 0 + 1) (by decide))).tr x5.mb).tr (mb_78 (i := 0 + 1 + 1) (by decide))
    have HN6 : rN B n (u_I K5 78 (12 * sd + 3 * nb + (0 + 1 + 1)) y5) M N c (bo2 B n N nb s).2.2.1 := rN_tab ((rN_tab ((rN_tab (HN2.r58 x3) (by decide)).r58 x4) (by decide)).r58 x5) (by decide)
    refine m_must (k := 59) (rr_tab hK5 (by decide)) (by decide) (by decide) (by decide) (by decide) (fun K' hK' x' => ?_)
    by_cases z : (paA B n 59 (boU B n (boU B n (boU B n (bo2 B n N nb s))))).1 = 0
    · have g19 : K' 58 19 = nI sd := by rw [(f6.tr x'.mb).2.1 19 (by decide) (by decide) (by omega)]; exact h19
      have g77 : K' 77 sd = nI nb := by
        rw [x'.1 77 (by decide), u_I_ne _ _ (by decide), x5.1 77 (by decide), u_I_ne _ _ (by decide), x4.1 77 (by decide), u_I_ne _ _ (by decide), x3.1 77 (by decide), x12.1 77 (by decide)]; exact h77
      rw [show K' 58 13 = 0 by rw [hK'.2.2.2.1]; exact (congrArg nI z).trans nI_0, if_pos (by decide), g19, nI_clamp (by omega), g77]
      refine ⟨vp_in_nI (by omega) (by decide), ?_⟩
      have a3 : (boU B n (boU B n (boU B n (bo2 B n N nb s)))).1 = 0 := (st_al z).1
      have a2 := bo_al a3
      have a1 := bo_al a2
      have a0 := bo_al a1
      have lf6 : (paA B n 59 (boU B n (boU B n (boU B n (bo2 B n N nb s))))).2.2.1 = 0 → (bo2 B n N nb s).2.2.1 = 0 := fun q => by
        have e8 : (paA B n 59 (boU B n (boU B n (boU B n (bo2 B n N nb s))))).2.2 = (boU B n (boU B n (boU B n (bo2 B n N nb s)))).2.2 := st_lf
        rw [e8] at q
        exact bo_lf (bo_lf (bo_lf q))
      refine m_knows (so := 145) (wh := nb) (N' := nwN B n N (stA true s) 145 nb) hK' ((rN_lf HN6 lf6).r58 x') hc hK1.2.1 (by omega) (Or.inr (Or.inr (Or.inl rfl))) (fun q => ?_) (fun K6 M6 hK6 hr6 x6 m6 => ?_)
      · have q0 := lf6 q
        rw [← eu] at a0 q0
        have al := (nw_al a0).2
        have q2 := (nw_lf q0).2
        rw [al, Bool.true_and] at q2
        have fn : fnN B n N (stA true s).2.1 = none := by
          cases hf : fnN B n N (stA true s).2.1 with
          | none => rfl
          | some a => rw [hf] at q2; exact absurd (show true = false from q2) (by decide)
        refine ⟨?_, (alv_2 al).2.1, fn⟩
        unfold nwN
        rw [al, fn]; rfl
      · have g6 : K6 58 19 = nI sd := by rw [x6.2 19 (by decide) (by decide) (by omega)]; exact g19
        rw [g6, nI_clamp (by omega), x6.1 77 (by decide) (by decide) (by decide), g77, nI_1]
        refine ⟨vp_in_nI (by omega) (by decide), vp_in_nI (by omega) (by decide), ?_⟩
        have back : (u_I K6 77 sd (nI (nb + 1))) 78 = (u_I K5 78 (12 * sd + 3 * nb + (0 + 1 + 1)) y5) 78 := by rw [u_I_ne _ _ (by decide), x6.1 78 (by decide) (by decide) (by decide), x'.1 78 (by decide)]
        have e54 : K5 78 = (u_I K4 78 (12 * sd + 3 * nb + (0 + 1)) y4) 78 := x5.1 78 (by decide)
        have e43 : K4 78 = (u_I K3 78 (12 * sd + 3 * nb + 0) y3) 78 := x4.1 78 (by decide)
        refine h _ M6 (rr_tab hK6 (by decide)) (((f6.tr x'.mb).tr x6.mb).tr mb_77) m6 (fun _ => ⟨rN_tab hr6 (by decide), by simp [u_I], ?_, ?_, ?_⟩)
        · rw [back]
          simp only [u_I, if_true, e54]
          rw [if_neg (by omega), if_neg (by omega), e43]
          simp only [u_I, if_true, Nat.add_zero]
          exact e3 a1
        · rw [back]
          simp only [u_I, if_true, e54]
          rw [if_neg (by omega)]
          exact e4 a2
        · rw [back]
          simp only [u_I, if_true]
          exact e5 a3
    · have h2 := hK'.2.2.2.2.1
      rw [if_neg (show ¬ K' 58 13 ≤ 0 by rw [hK'.2.2.2.1]; exact nI_nle (Nat.pos_of_ne_zero z) (by omega))]
      exact h K' M hK' (f6.tr x'.mb) (fun _ _ => rfl) (fun q => absurd q z)
