/-! read: a PLAN's tell, in the reference, as a whole -/
theorem sl_dead {B : Nat → Nat} {n ns : Nat} {N : nm_X} {s : s4_X} (h : ¬ s.1 = 0) : ∀ k, (slL B n N k s ns).1 = s
  | 0 => rfl
  | k + 1 => by rw [slL, if_neg (fun c => h c.1)]
theorem m_plan {d sd q c : Nat} {B : Nat → Nat} {n : Nat} {J : st_I} {M : st_L} {s : s4_X} {N : nm_X} {F : st_I → st_L → Prop} (hsd : sd ≤ 1) (hq : q ≤ 4) (hc : c < 39) (H : rr B n J M s) (hl : lok s) (HN : rN B n J M N c s.2.2.1) (hs : s.1 = 0) (hk : knF B n s.2.1 = 147) (h19 : J 58 19 = nI sd) (h82 : J 82 sd = nI q)
    (h : ∀ K M', rr B n K M' (plS B n N q s) → mp sd (4 * sd + q) J K → (∀ p, p ≠ 66 → M' p = M p) → ((plS B n N q s).1 = 0 → rN B n K M' (plN B n N q s) (c + 1) (plS B n N q s).2.2.1 ∧ K 82 sd = nI (q + 1) ∧ K 83 (4 * sd + q) = nI (plX B n N q s).2 ∧ ∀ k, k < (plX B n N q s).2 → rQ K (12 * (4 * sd + q) + k) (plR B n N q s k).2.1 (plR B n N q s k).2.2 (plS B n N q s).2.2.1) → F K M') : EV (d + 6) mX12_tell [.ref 58] J M F := by
  obtain ⟨l1, l2, l3, l4, l5, l6, l7⟩ := H.lt
  have vs : vp_in (nI sd) 2 := vp_in_nI (by omega) (by decide)
  refine sgX12_tell_0 ?_
  rw [l3, nI_clamp (by omega), l4, hk]
  refine ⟨l2, ?_⟩
  rw [if_neg (by decide), if_neg (by decide), if_neg (by decide), if_neg (by decide), if_neg (by decide), if_pos (by decide), h19, nI_clamp (by omega), h82]
  refine ⟨vs, ?_⟩
  by_cases full : 4 ≤ q
  · rw [if_pos (by rw [show q = 4 by omega]; rfl)]
    have ep : pfA (decide (4 ≤ q)) s = (2, s.2) := pf_full (decide_eq_true full) hs
    have ef : plS B n N q s = (2, s.2) := by
      unfold plS; rw [ep, if_neg (show ¬ (2 : Nat) = 0 by decide)]
    rw [ef] at h
    refine m_fail (k := 2) H (by decide) (by decide) (fun K hK hx => ?_)
    have eq : fiA 2 s = (2, s.2) := by unfold fiA; rw [if_pos hs]
    rw [eq] at hK
    refine sgX12_tell_209 ?_
    rw [if_neg (show ¬ K 58 13 = 0 by rw [hK.2.2.2.1]; exact nI_ne0 (show 0 < 2 by decide) (show 2 < 2 ^ 31 by decide))]
    exact h K M hK hx.mp (fun _ _ => rfl) (fun q => absurd (show (2 : Nat) = 0 from q) (by decide))
  · rw [if_neg (fun c => full (by have := (nI_eq (b := 4) (by omega) (by decide)).mp c; omega))]
    have ep : pfA (decide (4 ≤ q)) s = stA true s := pf_no (decide_eq_false full)
    refine sgX12_tell_209 ?_
    rw [if_pos (show J 58 13 = 0 by rw [H.2.2.2.1, hs]; exact nI_0)]
    refine sgX12_tellPlan_0 (m_goesOn H hs (by omega) (fun K1 hK1 x1 => ?_))
    have HN1 : rN B n K1 M N c (stA true s).2.2.1 := rN_lf (HN.r58 x1) (fun z => by rw [show (stA true s).2.2 = s.2.2 from st_lf] at z; exact z)
    refine m_named hK1 (lok_st hl) HN1 (fun K2 hK2 x2 => ?_)
    refine m_must (k := 123) hK2 (by decide) (by decide) (by decide) (by decide) (fun K3 hK3 x3 => ?_)
    have e3 : paA B n 123 (nwA B n N (stA true s)) = pl3 B n N q s := by unfold pl3; rw [ep]
    rw [e3] at hK3
    have x13 := (x1.tr x2).tr x3
    have lf3 : (pl3 B n N q s).2.2.1 = 0 → (nwA B n N (stA true s)).2.2.1 = 0 := fun z => by rw [← e3, show (paA B n 123 (nwA B n N (stA true s))).2.2 = (nwA B n N (stA true s)).2.2 from st_lf] at z; exact z
    have HN3 : rN B n K3 M N c (pl3 B n N q s).2.2.1 := rN_lf (((rN_lf (HN1.r58 x2) (fun z => (nw_lf z).1))).r58 x3) lf3
    have ll3 : lok (pl3 B n N q s) := by rw [← e3]; exact lok_st (lok_nw (lok_st hl))
    by_cases z3 : (pl3 B n N q s).1 = 0
    · have zn : (nwA B n N (stA true s)).1 = 0 := by rw [← e3] at z3; exact (st_al z3).1
      have z1 : (stA true s).1 = 0 := (nw_al zn).1
      have eS : plS B n N q s = paA B n 125 (plX B n N q s).1 := by unfold plS; rw [ep, if_pos z1]
      have g19 : K3 58 19 = nI sd := by rw [x13.2 19 (by decide) (by omega)]; exact h19
      have g82 : K3 82 sd = nI q := by rw [x13.1 82 (by decide)]; exact h82
      rw [if_pos (show K3 58 13 ≤ 0 by rw [hK3.2.2.2.1, z3]; decide), g19, nI_clamp (by omega), g82]
      refine ⟨vs, ?_⟩
      have eN : plN B n N q s = nwN B n N (stA true s) 147 q := by unfold plN; rw [ep]
      refine m_knows (so := 147) (wh := q) (N' := plN B n N q s) hK3 HN3 hc hK1.2.1 (by omega) (Or.inr (Or.inr (Or.inr (Or.inr rfl)))) (fun z => by rw [eN]; exact nw_new zn (lf3 z)) (fun K4 M4 hK4 hr4 x4 m4 => ?_)
      have k19 : K4 58 19 = nI sd := by rw [x4.2 19 (by decide) (by decide) (by omega)]; exact g19
      have k82 : K4 82 sd = nI q := by rw [x4.1 82 (by decide) (by decide) (by decide)]; exact g82
      rw [k19, nI_clamp (by omega), k82, show (4 : Int32) * nI sd + nI q = nI (4 * sd + q) from mx 4 sd q, nI_clamp (show 4 * sd + q < 2 ^ 31 by omega)]
      refine ⟨vs, vp_in_nI (by omega) (by decide), ?_⟩
      rw [eS] at h
      refine m_plan_60 (d := d) (N := plN B n N q s) (s0 := pl3 B n N q s) (J0 := J) (c := c + 1) hsd (by omega) 13 0 _ (pl3 B n N q s) (by omega) (rr_tab hK4 (by decide)) ll3 (fun _ => rN_tab hr4 (by decide)) ((x13.mp.tr x4.mp).tr mp_83) (by rw [u_I_ne _ _ (by decide)]; exact k19) (by rw [u_I_ne _ _ (by decide)]; exact k82) (fun _ => ⟨rfl, by decide, by simp [u_I]; rfl, fun j hj => absurd hj (Nat.not_lt_zero _)⟩) (fun K a b e => h K M4 a b m4 e)
    · rw [if_neg (show ¬ K3 58 13 ≤ 0 by rw [hK3.2.2.2.1]; exact nI_nle (Nat.pos_of_ne_zero z3) (by have := hK3.2.2.2.2.1; omega))]
      have eS : plS B n N q s = pl3 B n N q s := by
        unfold plS
        rw [ep]
        by_cases z1 : (stA true s).1 = 0
        · rw [if_pos z1]
          unfold plX
          rw [sl_dead z3]; exact st_dead z3
        · rw [if_neg z1, ← e3, nw_dead z1]
          exact (st_dead z1).symm
      exact h K3 M (by rw [eS]; exact hK3) x13.mp (fun _ _ => rfl) (fun z => by rw [eS] at z; exact absurd z z3)
