/-! read: a FIDDLE's tell, in the reference, as a whole -/
theorem pf_no {s : s4_X} {b : Bool} (h : b = false) : pfA b s = stA true s := by
  unfold pfA
  rw [h, if_neg (fun c => absurd c.2 (by decide))]
theorem pf_full {s : s4_X} {b : Bool} (h : b = true) (z : s.1 = 0) : pfA b s = (2, s.2) := by
  unfold pfA
  rw [if_pos ⟨z, h⟩]
theorem m_fiddle {d sd nf c : Nat} {B : Nat → Nat} {n : Nat} {J : st_I} {M : st_L} {s : s4_X} {N : nm_X} {F : st_I → st_L → Prop} (hsd : sd ≤ 1) (hnf : nf ≤ 8) (hc : c < 39) (H : rr B n J M s) (hl : lok s) (HN : rN B n J M N c s.2.2.1) (hs : s.1 = 0) (hk : knF B n s.2.1 = 140) (h19 : J 58 19 = nI sd) (h69 : J 69 sd = nI nf)
    (h : ∀ K M', rr B n K M' (fiS B n N nf s) → mf sd (8 * sd + nf) J K → (∀ q, q ≠ 66 → M' q = M q) → ((fiS B n N nf s).1 = 0 → rN B n K M' (nwN B n N (pfA (decide (8 ≤ nf)) s) 140 nf) (c + 1) (fiS B n N nf s).2.2.1 ∧ K 69 sd = nI (nf + 1) ∧ K 70 (8 * sd + nf) = b01 (foB B n 135 (fi2 B n N nf s)) ∧ K 71 (3 * (8 * sd + nf)) = nI (ivA B n (fi3 B n (fi2 B n N nf s))) ∧ K 71 (3 * (8 * sd + nf) + 1) = nI (ivA B n (inA B n 20 (fi3 B n (fi2 B n N nf s)))) ∧ K 71 (3 * (8 * sd + nf) + 2) = nI (ivA B n (inA B n 20 (inA B n 20 (fi3 B n (fi2 B n N nf s))))) ∧ K 72 (8 * sd + nf) = b01 (foB B n 142 (fi6 B n (fi3 B n (fi2 B n N nf s))))) → F K M') : EV (d + 6) mX12_tell [.ref 58] J M F := by
  obtain ⟨l1, l2, l3, l4, l5, l6, l7⟩ := H.lt
  have vs : vp_in (nI sd) 2 := vp_in_nI (by omega) (by decide)
  refine sgX12_tell_0 ?_
  rw [l3, nI_clamp (by omega), l4, hk]
  refine ⟨l2, ?_⟩
  rw [if_pos (by decide), h19, nI_clamp (by omega), h69]
  refine ⟨vs, ?_⟩
  by_cases full : 8 ≤ nf
  · have e8 : nf = 8 := by omega
    rw [if_pos (by rw [e8]; rfl)]
    have ep : pfA (decide (8 ≤ nf)) s = (2, s.2) := pf_full (decide_eq_true full) hs
    have ef : fiS B n N nf s = (2, s.2) := by
      unfold fiS; rw [ep, if_neg (show ¬ (2 : Nat) = 0 by decide)]
    rw [ef] at h
    refine m_fail (k := 2) H (by decide) (by decide) (fun K hK hx => ?_)
    have eq : fiA 2 s = (2, s.2) := by unfold fiA; rw [if_pos hs]
    rw [eq] at hK
    refine sgX12_tell_79 ?_
    rw [if_neg (show ¬ K 58 13 = 0 by rw [hK.2.2.2.1]; exact nI_ne0 (show 0 < 2 by decide) (show 2 < 2 ^ 31 by decide))]
    exact h K M hK hx.mf (fun _ _ => rfl) (fun q => absurd (show (2 : Nat) = 0 from q) (by decide))
  · rw [if_neg (fun q => full (by have := (nI_eq (b := 8) (by omega) (by decide)).mp q; omega))]
    have ep : pfA (decide (8 ≤ nf)) s = stA true s := pf_no (decide_eq_false full)
    refine sgX12_tell_79 ?_
    rw [if_pos (show J 58 13 = 0 by rw [H.2.2.2.1, hs]; exact nI_0)]
    refine sgX12_tellFiddle_0 ?_
    rw [h19, nI_clamp (by omega), h69, show (8 : Int32) * nI sd + nI nf = nI (8 * sd + nf) from mx 8 sd nf]
    refine ⟨vs, m_goesOn H hs (by omega) (fun K1 hK1 x1 => ?_)⟩
    have HN1 : rN B n K1 M N c (stA true s).2.2.1 := rN_lf (HN.r58 x1) (fun q => by rw [show (stA true s).2.2 = s.2.2 from st_lf] at q; exact q)
    refine m_named hK1 (lok_st hl) HN1 (fun K2 hK2 x2 => ?_)
    have eu : nwA B n N (stA true s) = fi2 B n N nf s := by unfold fi2; rw [ep]
    rw [eu] at hK2
    have lu : lok (fi2 B n N nf s) := by rw [← eu]; exact lok_nw (lok_st hl)
    have efi : fiS B n N nf s = fi8 B n (fi6 B n (fi3 B n (fi2 B n N nf s))) := by
      unfold fiS
      rw [ep]
      by_cases z : (stA true s).1 = 0
      · rw [if_pos z]
      · have e2 : fi2 B n N nf s = stA true s := by rw [← eu]; exact nw_dead z
        rw [if_neg z, e2, fi3_dead z]
        unfold fi6 fi8
        rw [in_dead z, in_dead z, in_dead z, pi_dead z]
        exact (st_dead z).symm
    rw [efi, ep] at h
    have x12 := x1.tr x2
    have HN2 : rN B n K2 M N c (fi2 B n N nf s).2.2.1 := rN_lf (HN1.r58 x2) (fun q => by rw [← eu] at q; exact (nw_lf q).1)
    -- behind the look at old and new
    have go : ∀ (K3 : st_I) (w0 : s4_X), rr B n K3 M w0 → r58 K2 K3 → stA true w0 = fi3 B n (fi2 B n N nf s) → w0.2.2 = (fi2 B n N nf s).2.2 → lok w0 → (w0.1 = 0 → w0 = fi2 B n N nf s ∧ (knF B n w0.2.1 = 135 ∨ knF B n w0.2.1 = 141)) → TV (d + 5) mX12_tellFiddle 57 [.ref 58, .int (nI (8 * sd + nf)), .int (nI (stA true s).2.1), .null] [] K3 M F := by
      intro K3 w0 hK3 x3 ew elf lw hw
      have vg : vp_in (nI (8 * sd + nf)) 16 := vp_in_nI (by omega) (by decide)
      have x13 := x12.tr x3
      refine sgX12_tellFiddle_57 (m_is (k := 135) hK3 (by decide) (by decide) (by decide) ?_)
      rw [nI_clamp (by omega), nar_b01]
      refine ⟨vg, ?_⟩
      have H4 : rr B n (u_I K3 70 (8 * sd + nf) (b01 (decide (w0.1 = 0 ∧ knF B n w0.2.1 = 135)))) M w0 := rr_tab hK3 (by decide)
      have N4 : rN B n (u_I K3 70 (8 * sd + nf) (b01 (decide (w0.1 = 0 ∧ knF B n w0.2.1 = 135)))) M N c w0.2.2.1 := rN_tab (rN_lf (HN2.r58 x3) (fun q => by rw [← elf]; exact q)) (by decide)
      have f4 : mf sd (8 * sd + nf) J (u_I K3 70 (8 * sd + nf) (b01 (decide (w0.1 = 0 ∧ knF B n w0.2.1 = 135)))) := x13.mf.tr mf_70
      have run : ∀ K4 : st_I, rr B n K4 M (fi3 B n (fi2 B n N nf s)) → lok (fi3 B n (fi2 B n N nf s)) → r58 (u_I K3 70 (8 * sd + nf) (b01 (decide (w0.1 = 0 ∧ knF B n w0.2.1 = 135)))) K4 → TV (d + 5) mX12_tellFiddle 82 [.ref 58, .int (nI (8 * sd + nf)), .int (nI (stA true s).2.1), .int 0] [] K4 M F := by
        intro K4 hK4 l4 x4
        have e22 : (fi3 B n (fi2 B n N nf s)).2.2 = w0.2.2 := by rw [← ew]; exact st_lf
        refine m_fiddle_82 (d := d + 1) (N' := nwN B n N (stA true s) 140 nf) (J0 := J) (c := c) (N := N) hsd (by omega) hc hK1.2.1 hK4 l4 (rN_lf (N4.r58 x4) (fun q => by rw [e22] at q; exact q)) ?_ ?_ (f4.tr x4.mf) ?_ ?_
        · rw [x4.2 19 (by decide) (by omega), u_I_ne _ _ (by decide), x13.2 19 (by decide) (by omega)]; exact h19
        · rw [x4.1 69 (by decide), u_I_ne _ _ (by decide), x13.1 69 (by decide)]; exact h69
        · intro z q
          have zu : (fi2 B n N nf s).1 = 0 := by
            rw [← ew] at z
            have := (st_al z).1
            rw [← (hw this).1]; exact this
          rw [← eu] at zu
          have al := (nw_al zu).2
          rw [e22, elf, ← eu] at q
          have q2 := (nw_lf q).2
          rw [al, Bool.true_and] at q2
          have fn : fnN B n N (stA true s).2.1 = none := by
            cases hf : fnN B n N (stA true s).2.1 with
            | none => rfl
            | some a => rw [hf] at q2; exact absurd (show true = false from q2) (by decide)
          refine ⟨?_, (alv_2 al).2.1, fn⟩
          unfold nwN
          rw [al, fn]; rfl
        · intro K M' hK hf hM hd
          refine h K M' hK hf hM (fun z => ?_)
          obtain ⟨d1, d2, d3, d4, d5, d6, d7⟩ := hd z
          refine ⟨d1, d2, ?_, d4, d5, d6, d7⟩
          rw [d3, x4.1 70 (by decide)]
          have zw : (fi3 B n (fi2 B n N nf s)).1 = 0 := (in_al (in_al (in_al (pi_al (st_al z).1)).1).1).1
          have z0 : w0.1 = 0 := by rw [← ew] at zw; exact (st_al zw).1
          obtain ⟨e0, -⟩ := hw z0
          have : foB B n 135 (fi2 B n N nf s) = decide (w0.1 = 0 ∧ knF B n w0.2.1 = 135) := by
            unfold foB
            rw [← e0]
            refine decide_eq_decide.mpr ⟨fun c => ⟨c.1, c.2.1⟩, fun c => ⟨c.1, c.2, ?_⟩⟩
            unfold paA
            rw [decide_eq_true c.2, ew]; exact zw
          rw [this]; simp [u_I]
      rw [hK3.2.2.2.1]
      by_cases z : w0.1 = 0
      · rw [if_pos (by rw [z]; exact nI_0)]
        have q := (hw z).2
        exact m_goesOn H4 z (by omega) (fun K4 hK4 x4 => run K4 (by rw [← ew]; exact hK4) (by rw [← ew]; exact lok_st lw) x4)
      · rw [if_neg (nI_ne0 (Nat.pos_of_ne_zero z) (by have := H4.2.2.2.2.1; omega))]
        have e : stA true w0 = w0 := st_dead z
        exact run _ (by rw [← ew, e]; exact H4) (by rw [← ew, e]; exact lw) r58.rf
    rw [hK2.2.2.2.1]
    by_cases zu : (fi2 B n N nf s).1 = 0
    · rw [if_pos (by rw [zu]; exact nI_0)]
      have e3 := fi3_c (B := B) (n := n) zu
      refine m_is (k := 135) hK2 (by decide) (by decide) (by decide) ?_
      by_cases a : knF B n (fi2 B n N nf s).2.1 = 135
      · rw [decide_eq_true (show _ ∧ _ from ⟨zu, a⟩), if_neg (by decide)]
        rw [if_pos (Or.inl a)] at e3
        exact go K2 _ hK2 r58.rf e3.symm rfl lu (fun _ => ⟨rfl, Or.inl a⟩)
      · rw [decide_eq_false (fun q => a q.2), if_pos (by decide)]
        refine m_is (k := 141) hK2 (by decide) (by decide) (by decide) ?_
        by_cases b : knF B n (fi2 B n N nf s).2.1 = 141
        · rw [decide_eq_true (show _ ∧ _ from ⟨zu, b⟩), if_neg (by decide)]
          rw [if_pos (Or.inr b)] at e3
          exact go K2 _ hK2 r58.rf e3.symm rfl lu (fun _ => ⟨rfl, Or.inr b⟩)
        · rw [decide_eq_false (fun q => b q.2), if_pos (by decide)]
          rw [if_neg (fun q => q.elim a b)] at e3
          refine m_fail (k := 1) hK2 (by decide) (by decide) (fun K3 hK3 x3 => ?_)
          have ef : fiA 1 (fi2 B n N nf s) = (1, (fi2 B n N nf s).2) := by unfold fiA; rw [if_pos zu]
          rw [ef] at hK3
          exact go K3 _ hK3 x3 (by rw [e3]; rfl) rfl (fun q => absurd (show (1 : Nat) = 0 from q) (by decide)) (fun q => absurd (show (1 : Nat) = 0 from q) (by decide))
    · rw [if_neg (nI_ne0 (Nat.pos_of_ne_zero zu) (by have := hK2.2.2.2.2.1; omega))]
      exact go K2 _ hK2 r58.rf (by rw [fi3_dead zu, st_dead zu]) rfl lu (fun q => absurd q zu)
