/-! read: a sit, in the reference, as a whole -/
theorem m_ord_126 {d g p c ns : Nat} {B : Nat → Nat} {n : Nat} {M : st_L} {N : nm_X} {F : st_I → st_L → Prop} {J0 : st_I} (hg : g < 96) (hp : p < 8) : ∀ (k m : Nat) (R : Nat → Int32) (s : s4_X) (J : st_I), m + (k + 1) = 7 → rr B n J M s → lok s → rN B n J M N c s.2.2.1 → s.1 = 0 → ms_X p g J0 J → J 83 p = nI ns → rQ J g m R s.2.2.1
    → (∀ K, rr B n K M (paA B n 59 (odL B n N (k + 1) s m R).1) → ms_X p g J0 K → ((paA B n 59 (odL B n N (k + 1) s m R).1).1 = 0 → K 83 p = nI (ns + 1) ∧ rQ K g (odL B n N (k + 1) s m R).2.1 (odL B n N (k + 1) s m R).2.2 (paA B n 59 (odL B n N (k + 1) s m R).1).2.2.1) → F K M) → TV (d + 4) mX12_tellSit 126 [.ref 58, .int (nI p), .int (nI g), .int 1, .null, .null, .null] [] J M F := by
  have vg : vp_in (nI g) 96 := vp_in_nI hg (by decide)
  have vp8 : vp_in (nI p) 8 := vp_in_nI hp (by decide)
  -- the ';'
  have last : ∀ (w : s4_X) (m : Nat) (R : Nat → Int32) (J : st_I), rr B n J M w → ms_X p g J0 J → J 83 p = nI ns → (w.1 = 0 → rQ J g m R w.2.2.1) → (∀ K, rr B n K M (paA B n 59 w) → ms_X p g J0 K → ((paA B n 59 w).1 = 0 → K 83 p = nI (ns + 1) ∧ rQ K g m R (paA B n 59 w).2.2.1) → F K M) → TV (d + 4) mX12_tellSit 126 [.ref 58, .int (nI p), .int (nI g), .int 0, .null, .null, .null] [] J M F := by
    intro w m R J hJ hx h83 hQ hF
    refine sgX12_tellSit_126 ?_
    rw [if_pos rfl]
    refine m_must (k := 59) hJ (by decide) (by decide) (by decide) (by decide) (fun K hK x1 => ?_)
    by_cases z : (paA B n 59 w).1 = 0
    · rw [show K 58 13 = 0 by rw [hK.2.2.2.1, z]; exact nI_0, if_pos rfl, nI_clamp (by omega), x1.1 83 (by decide), h83, nI_1]
      refine ⟨vp8, vp8, hF _ (rr_tab hK (by decide)) ((hx.tr x1.ms).tr ms_83) (fun _ => ⟨by simp [u_I], ?_⟩)⟩
      have q := ((hQ (st_al z).1).r58 x1)
      have e : (paA B n 59 w).2.2 = w.2.2 := st_lf
      rw [e]
      unfold rQ
      rw [u_I_ne _ _ (show 84 ≠ 83 by decide), u_I_ne _ _ (show 85 ≠ 83 by decide), u_I_ne _ _ (show 86 ≠ 83 by decide), u_I_ne _ _ (show 87 ≠ 83 by decide), u_I_ne _ _ (show 88 ≠ 83 by decide)]
      exact q
    · rw [if_neg (by rw [hK.2.2.2.1]; exact nI_ne0 (Nat.pos_of_ne_zero z) (by have := hK.2.2.2.2.1; omega))]
      exact hF K hK (hx.tr x1.ms) (fun c => absurd c z)
  intro k
  induction k with
  | zero =>
    intro m R s J hk H hl HN hs hx h83 hQ hF
    have m6 : m = 6 := by omega
    subst m6
    have dead : ¬ (orA B n N R 0 6 s).1 = 0 := fun z => by have := (or_al z).1; omega
    have eo : odL B n N (0 + 1) s 6 R = (orA B n N R 0 6 s, 6, R) := by rw [odL, if_neg dead]
    have ep : paA B n 59 (orA B n N R 0 6 s) = orA B n N R 0 6 s := st_dead dead
    rw [eo, ep] at hF
    have ea : orA B n N R 0 6 s = tnA B n N 140 (orU B n 6 s) := by
      unfold orA
      rw [decide_eq_false (fun q => absurd q.2 (by decide)), Bool.false_and]; rfl
    refine sgX12_tellSit_126 ?_
    rw [if_neg (by decide)]
    refine m_is (k := 2) H (by decide) (by decide) (by decide) ?_
    by_cases y : knF B n s.2.1 = 2
    · have eu : orU B n 6 s = (2, s.2) := by unfold orU; rw [if_pos ⟨Nat.le_refl _, hs, y⟩]
      have e2 : orA B n N R 0 6 s = (2, s.2) := by rw [ea, eu]; exact tn_dead (show ¬ (2 : Nat) = 0 by decide)
      rw [decide_eq_true (show s.1 = 0 ∧ knF B n s.2.1 = 2 from ⟨hs, y⟩), if_neg (by decide), nI_clamp (by omega), hQ.1, if_pos (by rfl)]
      refine ⟨vg, m_fail (k := 2) H (by decide) (by decide) (fun K hK x1 => ?_)⟩
      have ef : fiA 2 s = (2, s.2) := by unfold fiA; rw [if_pos hs]
      rw [ef] at hK
      have n13 : ¬ K 58 13 ≤ 0 := by rw [hK.2.2.2.1]; exact nI_nle (show 0 < 2 by decide) (show 2 < 2 ^ 31 by decide)
      refine sgX12_tellSit_154 ?_
      rw [if_neg n13, if_neg n13]
      exact hF K (by rw [e2]; exact hK) (hx.tr x1.ms) (fun c => absurd c dead)
    · have eu : orU B n 6 s = s := by unfold orU; rw [if_neg (fun c => y c.2.2)]
      rw [eu] at ea
      rw [decide_eq_false (fun c => y c.2), if_pos (by decide)]
      refine sgX12_tellSit_154 ?_
      rw [if_pos (show J 58 13 ≤ 0 by rw [H.2.2.2.1, hs]; decide)]
      refine m_known (kind := 140) H hl HN (Or.inl rfl) (fun K x hK x1 _ => ?_)
      have dz := dead
      rw [ea] at dz
      rw [if_neg (show ¬ K 58 13 ≤ 0 by rw [hK.2.2.2.1]; exact nI_nle (Nat.pos_of_ne_zero dz) (by have := hK.2.2.2.2.1; omega))]
      exact hF K (by rw [ea]; exact hK) (hx.tr x1.ms) (fun c => absurd c dead)
  | succ k ih =>
    intro m R s J hk H hl HN hs hx h83 hQ hF
    have m6 : m < 6 := by omega
    obtain ⟨l1, l2, l3, l4, l5, l6, l7⟩ := H.lt
    have eu : orU B n m s = s := by unfold orU; rw [if_neg (by omega)]
    -- the NAME
    have go : TV (d + 4) mX12_tellSit 154 [.ref 58, .int (nI p), .int (nI g), .null, .null, .null, .null] [] J M F := by
      refine sgX12_tellSit_154 ?_
      rw [if_pos (show J 58 13 ≤ 0 by rw [H.2.2.2.1, hs]; decide), l3]
      refine m_known (kind := 140) H hl HN (Or.inl rfl) (fun K x hK x1 hxv => ?_)
      rw [odL] at hF
      by_cases z : (tnA B n N 140 s).1 = 0
      · rw [if_pos (show K 58 13 ≤ 0 by rw [hK.2.2.2.1, z]; decide)]
        refine m_ord_189 (R := R) hg m6 hK hs hl z H.2.1 (hQ.r58 x1) (fun q => hxv z q) (fun K2 hK2 x2 => ?_)
        have o1 : (orA B n N R 0 m s).1 = 0 := by unfold orA; rw [la_1.1, eu]; exact z
        obtain ⟨-, -, -, -, eoa⟩ := or_al o1
        have otok : (orA B n N R 0 m s).2.1 = s.2.1 + 1 := by rw [eoa, la_1.2]; exact tn_tok z
        have olok : lok (orA B n N R 0 m s) := by rw [eoa]; exact lok_la (lok_tn hl) (fun _ => by rw [tn_tok z]; omega)
        have olf : (orA B n N R 0 m s).2.2.1 = 0 → s.2.2.1 = 0 := fun q => by rw [eoa] at q; exact (tn_lf (la_lf (by decide) q).1).1
        rw [if_pos o1] at hF
        have x12 := x1.tr x2
        refine sgX12_tellSit_189 ?_
        have e87 : K2 87 g = nI m := by rw [x12.1 87 (by decide)]; exact hQ.1
        rw [nI_clamp (show g < 2 ^ 31 by omega), e87, if_pos (nI_le (Nat.le_refl _) (by omega)), show (6 : Int32) * nI g + nI m = nI (6 * g + m) from mx 6 g m, nI_clamp (show 6 * g + m < 2 ^ 31 by omega), nI_1]
        refine ⟨vg, vg, vp_in_nI (by omega) (by decide), vg, vg, ?_⟩
        have H3 : rr B n (u_I (u_I K2 88 (6 * g + m) x) 87 g (nI (m + 1))) M (orA B n N R 0 m s) := rr_tab (rr_tab hK2 (by decide)) (by decide)
        have y3 : ms_X p g J0 (u_I (u_I K2 88 (6 * g + m) x) 87 g (nI (m + 1))) := ((hx.tr x12.ms).tr (ms_88 (by omega))).tr (ms_84 (by decide) (by decide))
        have n3 : rN B n (u_I (u_I K2 88 (6 * g + m) x) 87 g (nI (m + 1))) M N c (orA B n N R 0 m s).2.2.1 := rN_tab (rN_tab (rN_lf (HN.r58 x12) olf) (by decide)) (by decide)
        have h3 : (u_I (u_I K2 88 (6 * g + m) x) 87 g (nI (m + 1))) 83 p = nI ns := by rw [u_I_ne _ _ (by decide), u_I_ne _ _ (by decide), x12.1 83 (by decide)]; exact h83
        have Q3 : rQ (u_I (u_I K2 88 (6 * g + m) x) 87 g (nI (m + 1))) g (m + 1) (upd R (4 + m) (tnV B n N 140 s)) (orA B n N R 0 m s).2.2.1 := by
          refine ⟨by simp [u_I], fun q => ?_⟩
          obtain ⟨v1, v2, v3, v4⟩ := (hQ.r58 x12).2 (olf q)
          have ex := hxv z (olf q)
          rw [u_I_ne _ _ (show 84 ≠ 87 by decide), u_I_ne _ _ (show 84 ≠ 88 by decide), u_I_ne _ _ (show 85 ≠ 87 by decide), u_I_ne _ _ (show 85 ≠ 88 by decide), u_I_ne _ _ (show 86 ≠ 87 by decide), u_I_ne _ _ (show 86 ≠ 88 by decide)]
          unfold upd
          rw [if_neg (by omega), if_neg (by omega), if_neg (by omega)]
          refine ⟨v1, v2, v3, fun i hi => ?_⟩
          rw [u_I_ne _ _ (show 88 ≠ 87 by decide)]
          by_cases e : i = m
          · subst e; rw [if_pos rfl]; simp only [u_I, if_true]; exact ex
          · rw [if_neg (by omega), u_Ik (by omega)]; exact v4 i (by omega)
        refine m_is (k := 44) H3 (by decide) (by decide) (by decide) ?_
        by_cases cm : knF B n (orA B n N R 0 m s).2.1 = 44
        · rw [decide_eq_true (show (orA B n N R 0 m s).1 = 0 ∧ _ from ⟨o1, cm⟩), if_neg (by decide)]
          refine m_goesOn H3 o1 (by omega) (fun K4 hK4 x4 => ?_)
          rw [if_neg (by decide)]
          have ep : paA B n 44 (orA B n N R 0 m s) = stA true (orA B n N R 0 m s) := by unfold paA; rw [decide_eq_true cm]
          rw [← ep] at hK4
          have e4 : K4 83 p = nI ns := by rw [x4.1 83 (by decide)]; exact h3
          have elf : (paA B n 44 (orA B n N R 0 m s)).2.2 = (orA B n N R 0 m s).2.2 := st_lf
          by_cases w : (paA B n 44 (orA B n N R 0 m s)).1 = 0
          · have fb : foB B n 44 (orA B n N R 0 m s) = true := decide_eq_true ⟨o1, cm, w⟩
            rw [if_pos fb] at hF
            rw [if_pos (show K4 58 13 = 0 by rw [hK4.2.2.2.1, w]; exact nI_0)]
            exact ih (m + 1) (upd R (4 + m) (tnV B n N 140 s)) _ K4 (by omega) hK4 (lok_st olok) (rN_lf (n3.r58 x4) (fun q => by rw [elf] at q; exact q)) w (y3.tr x4.ms) e4 ((Q3.r58 x4).lf (fun q => by rw [elf] at q; exact q)) hF
          · have fb : ¬ foB B n 44 (orA B n N R 0 m s) = true := fun q => w (of_decide_eq_true q).2.2
            rw [if_neg fb] at hF
            rw [if_neg (by rw [hK4.2.2.2.1]; exact nI_ne0 (Nat.pos_of_ne_zero w) (by have := hK4.2.2.2.2.1; omega))]
            have epi : piA B n 44 (orA B n N R 0 m s) = paA B n 44 (orA B n N R 0 m s) := by unfold piA; rw [if_pos cm]
            rw [epi] at hF
            exact last _ (m + 1) (upd R (4 + m) (tnV B n N 140 s)) K4 hK4 (y3.tr x4.ms) e4 (fun q => absurd q w) hF
        · rw [decide_eq_false (fun q => cm q.2), if_pos (by decide)]
          have fb : ¬ foB B n 44 (orA B n N R 0 m s) = true := fun q => cm (of_decide_eq_true q).2.1
          rw [if_neg fb] at hF
          have epi : piA B n 44 (orA B n N R 0 m s) = orA B n N R 0 m s := by unfold piA; rw [if_neg cm]
          rw [epi] at hF
          exact last _ (m + 1) (upd R (4 + m) (tnV B n N 140 s)) _ H3 y3 h3 (fun _ => Q3) hF
      · rw [if_neg (show ¬ K 58 13 ≤ 0 by rw [hK.2.2.2.1]; exact nI_nle (Nat.pos_of_ne_zero z) (by have := hK.2.2.2.2.1; omega))]
        have ea : orA B n N R 0 m s = tnA B n N 140 s := by
          unfold orA
          rw [eu, decide_eq_false (fun q => z q.1), Bool.false_and]; rfl
        rw [ea, if_neg z] at hF
        have ep : paA B n 59 (tnA B n N 140 s) = tnA B n N 140 s := st_dead z
        rw [ep] at hF
        exact hF K hK (hx.tr x1.ms) (fun c => absurd c z)
    refine sgX12_tellSit_126 ?_
    rw [if_neg (by decide)]
    refine m_is (k := 2) H (by decide) (by decide) (by decide) ?_
    split
    · exact go
    · rw [nI_clamp (by omega), hQ.1, if_neg (fun q => by have := (nI_eq (b := 6) (by omega) (by decide)).mp q; omega)]
      exact ⟨vg, go⟩
