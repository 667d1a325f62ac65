/-! read: a PERSON's tell, in the reference, as a whole -/
theorem m_person_0 {d sd np c : Nat} {B : Nat → Nat} {n : Nat} {J : st_I} {M : st_L} {s : s4_X} {N : nm_X} {F : st_I → st_L → Prop} (hsd : sd ≤ 1) (hnp : np ≤ 10) (hc : c < 39) (H : rr B n J M s) (hl : lok s) (HN : rN B n J M N c s.2.2.1) (hs : s.1 = 0) (hk : knF B n s.2.1 = 143 ∨ knF B n s.2.1 = 144) (h19 : J 58 19 = nI sd) (h73 : J 73 sd = nI np)
    (h : ∀ K M', rr B n K M' (peS B n N np s) → mq sd (10 * sd + np) J K → (∀ q, q ≠ 66 → M' q = M q) → ((peS B n N np s).1 = 0 → rN B n K M' (nwN B n N (pfA (decide (10 ≤ np)) s) 143 np) (c + 1) (peS B n N np s).2.2.1 ∧ K 73 sd = nI (np + 1) ∧ K 74 (10 * sd + np) = b01 (decide (knF B n s.2.1 = 144)) ∧ K 75 (3 * (10 * sd + np)) = nI (ivA B n (pe2 B n N np s)) ∧ K 75 (3 * (10 * sd + np) + 1) = nI (ivA B n (inA B n 9 (pe2 B n N np s))) ∧ K 75 (3 * (10 * sd + np) + 2) = nI (ivA B n (inA B n 9 (inA B n 9 (pe2 B n N np s)))) ∧ K 76 (10 * sd + np) = nI (ivA B n (inA B n 9 (inA B n 9 (inA B n 9 (pe2 B n N np s)))))) → F K M') : if J 73 sd = 10 then EV (d + 5) mX12_fail [.ref 58, .int 2] J M (fun I2 L2 => TV (d + 6) mX12_tell 112 [.ref 58] [] I2 L2 F) else TV (d + 6) mX12_tell 112 [.ref 58] [] J M F := by
  have vs : vp_in (nI sd) 2 := vp_in_nI (by omega) (by decide)
  rw [h73]
  by_cases full : 10 ≤ np
  · have e8 : np = 10 := by omega
    rw [if_pos (by rw [e8]; rfl)]
    have ep : pfA (decide (10 ≤ np)) s = (2, s.2) := pf_full (decide_eq_true full) hs
    have ef : peS B n N np s = (2, s.2) := by
      unfold peS; rw [ep, if_neg (show ¬ (2 : Nat) = 0 by decide)]
    rw [ef] at h
    refine m_fail (k := 2) H (by decide) (by decide) (fun K hK hx => ?_)
    have eq : fiA 2 s = (2, s.2) := by unfold fiA; rw [if_pos hs]
    rw [eq] at hK
    refine sgX12_tell_112 ?_
    rw [if_neg (show ¬ K 58 13 = 0 by rw [hK.2.2.2.1]; exact nI_ne0 (show 0 < 2 by decide) (show 2 < 2 ^ 31 by decide))]
    exact h K M hK hx.mq (fun _ _ => rfl) (fun q => absurd (show (2 : Nat) = 0 from q) (by decide))
  · rw [if_neg (fun q => full (by have := (nI_eq (b := 10) (by omega) (by decide)).mp q; omega))]
    have ep : pfA (decide (10 ≤ np)) s = stA true s := pf_no (decide_eq_false full)
    refine sgX12_tell_112 ?_
    rw [if_pos (show J 58 13 = 0 by rw [H.2.2.2.1, hs]; exact nI_0)]
    refine sgX12_tellPerson_0 ?_
    rw [h19, nI_clamp (by omega), h73, show (10 : Int32) * nI sd + nI np = nI (10 * sd + np) from mx 10 sd np]
    refine ⟨vs, m_is (k := 144) H (by decide) (by decide) (by decide) ?_⟩
    rw [nI_clamp (by omega), nar_b01]
    refine ⟨vp_in_nI (by omega) (by decide), ?_⟩
    have eh : decide (s.1 = 0 ∧ knF B n s.2.1 = 144) = decide (knF B n s.2.1 = 144) := decide_eq_decide.mpr ⟨fun c => c.2, fun c => ⟨hs, c⟩⟩
    rw [eh]
    refine m_goesOn (rr_tab H (by decide)) hs (by omega) (fun K1 hK1 x1 => ?_)
    have HN1 : rN B n K1 M N c (stA true s).2.2.1 := rN_lf ((rN_tab HN (by decide)).r58 x1) (fun q => by rw [show (stA true s).2.2 = s.2.2 from st_lf] at q; exact q)
    refine m_named hK1 (lok_st hl) HN1 (fun K2 hK2 x2 => ?_)
    have eu : nwA B n N (stA true s) = pe2 B n N np s := by unfold pe2; rw [ep]
    rw [eu] at hK2
    have lu : lok (pe2 B n N np s) := by rw [← eu]; exact lok_nw (lok_st hl)
    have efi : peS B n N np s = paA B n 59 (pe6 B n (pe2 B n N np s)) := by
      unfold peS
      rw [ep]
      by_cases z : (stA true s).1 = 0
      · rw [if_pos z]
      · have e2 : pe2 B n N np s = stA true s := by rw [← eu]; exact nw_dead z
        rw [if_neg z, e2]
        unfold pe6
        rw [in_dead z, in_dead z, in_dead z, in_dead z]
        exact (st_dead z).symm
    rw [efi, ep] at h
    have x12 := x1.tr x2
    have HN2 : rN B n K2 M N c (pe2 B n N np s).2.2.1 := rN_lf (HN1.r58 x2) (fun q => by rw [← eu] at q; exact (nw_lf q).1)
    refine m_person_41 (d := d + 1) (N' := nwN B n N (stA true s) 143 np) (J0 := J) (c := c) (N := N) hsd (by omega) hc hK1.2.1 hK2 lu HN2 ?_ ?_ (mq_74.tr x12.mq) ?_ ?_
    · rw [x12.2 19 (by decide) (by omega), u_I_ne _ _ (by decide)]; exact h19
    · rw [x12.1 73 (by decide), u_I_ne _ _ (by decide)]; exact h73
    · intro zu q
      rw [← eu] at zu q
      have al := (nw_al zu).2
      have q2 := (nw_lf q).2
      rw [al, Bool.true_and] at q2
      have fn : fnN B n N (stA true s).2.1 = none := by
        cases hf : fnN B n N (stA true s).2.1 with
        | none => rfl
        | some a => rw [hf] at q2; exact absurd (show true = false from q2) (by decide)
      refine ⟨?_, (alv_2 al).2.1, fn⟩
      unfold nwN
      rw [al, fn]; rfl
    · intro K M' hK hf hM hd
      refine h K M' hK hf hM (fun z => ?_)
      obtain ⟨d1, d2, d3, d4⟩ := hd z
      refine ⟨d1, d2, ?_, d4⟩
      rw [d3, x12.1 74 (by decide)]
      simp [u_I]
theorem m_person {d sd np c : Nat} {B : Nat → Nat} {n : Nat} {J : st_I} {M : st_L} {s : s4_X} {N : nm_X} {F : st_I → st_L → Prop} (hsd : sd ≤ 1) (hnp : np ≤ 10) (hc : c < 39) (H : rr B n J M s) (hl : lok s) (HN : rN B n J M N c s.2.2.1) (hs : s.1 = 0) (hk : knF B n s.2.1 = 143 ∨ knF B n s.2.1 = 144) (h19 : J 58 19 = nI sd) (h73 : J 73 sd = nI np)
    (h : ∀ K M', rr B n K M' (peS B n N np s) → mq sd (10 * sd + np) J K → (∀ q, q ≠ 66 → M' q = M q) → ((peS B n N np s).1 = 0 → rN B n K M' (nwN B n N (pfA (decide (10 ≤ np)) s) 143 np) (c + 1) (peS B n N np s).2.2.1 ∧ K 73 sd = nI (np + 1) ∧ K 74 (10 * sd + np) = b01 (decide (knF B n s.2.1 = 144)) ∧ K 75 (3 * (10 * sd + np)) = nI (ivA B n (pe2 B n N np s)) ∧ K 75 (3 * (10 * sd + np) + 1) = nI (ivA B n (inA B n 9 (pe2 B n N np s))) ∧ K 75 (3 * (10 * sd + np) + 2) = nI (ivA B n (inA B n 9 (inA B n 9 (pe2 B n N np s)))) ∧ K 76 (10 * sd + np) = nI (ivA B n (inA B n 9 (inA B n 9 (inA B n 9 (pe2 B n N np s)))))) → F K M') : EV (d + 6) mX12_tell [.ref 58] J M F := by
  obtain ⟨l1, l2, l3, l4, l5, l6, l7⟩ := H.lt
  have vs : vp_in (nI sd) 2 := vp_in_nI (by omega) (by decide)
  have go := m_person_0 (d := d) hsd hnp hc H hl HN hs hk h19 h73 h
  refine sgX12_tell_0 ?_
  rw [l3, nI_clamp (by omega), l4, h19, nI_clamp (show sd < 2 ^ 31 by omega)]
  refine ⟨l2, ?_⟩
  rcases hk with k | k
  · rw [k, if_neg (by decide), if_pos (by decide)]
    exact ⟨vs, go⟩
  · rw [k, if_neg (by decide), if_neg (by decide), if_pos (by decide)]
    exact ⟨vs, go⟩
