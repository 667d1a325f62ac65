/-! read: a FIDDLE's tell, in the reference -/
/-- frame of a FIDDLE's tell in the reference: row g = 8 side + fiddle -/
def mf (sd g : Nat) (I J : st_I) : Prop := (∀ q, q < 58 ∨ (58 < q ∧ q < 67) ∨ q = 68 + 5 ∨ 73 < q → J q = I q) ∧ (∀ j, j ≠ 11 → j ≠ 20 → j < 13 ∨ 16 < j → J 58 j = I 58 j) ∧ (∀ j, j ≠ sd → J 69 j = I 69 j) ∧ (∀ j, j ≠ g → J 70 j = I 70 j) ∧ (∀ j, j < 3 * g ∨ 3 * g + 3 ≤ j → J 71 j = I 71 j) ∧ ∀ j, j ≠ g → J 72 j = I 72 j
theorem mf.rf {sd g : Nat} {I : st_I} : mf sd g I I := ⟨fun _ _ => rfl, fun _ _ _ _ => rfl, fun _ _ => rfl, fun _ _ => rfl, fun _ _ => rfl, fun _ _ => rfl⟩
theorem mf.tr {sd g : Nat} {I J K : st_I} (h : mf sd g I J) (k : mf sd g J K) : mf sd g I K := ⟨fun q a => (k.1 q a).trans (h.1 q a), fun j a b c => (k.2.1 j a b c).trans (h.2.1 j a b c), fun j a => (k.2.2.1 j a).trans (h.2.2.1 j a), fun j a => (k.2.2.2.1 j a).trans (h.2.2.2.1 j a), fun j a => (k.2.2.2.2.1 j a).trans (h.2.2.2.2.1 j a), fun j a => (k.2.2.2.2.2 j a).trans (h.2.2.2.2.2 j a)⟩
theorem r58.mf {sd g : Nat} {I J : st_I} (h : r58 I J) : mf sd g I J := ⟨fun q a => h.1 q (by omega), fun j a _ c => h.2 j a c, fun j _ => by rw [h.1 69 (by decide)], fun j _ => by rw [h.1 70 (by decide)], fun j _ => by rw [h.1 71 (by decide)], fun j _ => by rw [h.1 72 (by decide)]⟩
theorem mf_70 {sd g : Nat} {I : st_I} {x : Int32} : mf sd g I (u_I I 70 g x) := ⟨fun q a => by rw [u_I_ne _ _ (by omega)], fun j _ _ _ => by rw [u_I_ne _ _ (by decide)], fun j _ => by rw [u_I_ne _ _ (by decide)], fun j a => by simp only [u_I, if_true, if_neg a], fun j _ => by rw [u_I_ne _ _ (by decide)], fun j _ => by rw [u_I_ne _ _ (by decide)]⟩
theorem mf_72 {sd g : Nat} {I : st_I} {x : Int32} : mf sd g I (u_I I 72 g x) := ⟨fun q a => by rw [u_I_ne _ _ (by omega)], fun j _ _ _ => by rw [u_I_ne _ _ (by decide)], fun j _ => by rw [u_I_ne _ _ (by decide)], fun j _ => by rw [u_I_ne _ _ (by decide)], fun j _ => by rw [u_I_ne _ _ (by decide)], fun j a => by simp only [u_I, if_true, if_neg a]⟩
theorem mf_71 {sd g i : Nat} {I : st_I} {x : Int32} (h : i < 3) : mf sd g I (u_I I 71 (3 * g + i) x) := ⟨fun q a => by rw [u_I_ne _ _ (by omega)], fun j _ _ _ => by rw [u_I_ne _ _ (by decide)], fun j _ => by rw [u_I_ne _ _ (by decide)], fun j _ => by rw [u_I_ne _ _ (by decide)], fun j a => by simp only [u_I, if_true]; rw [if_neg (by omega)], fun j _ => by rw [u_I_ne _ _ (by decide)]⟩
theorem mf_69 {sd g : Nat} {I : st_I} {x : Int32} : mf sd g I (u_I I 69 sd x) := ⟨fun q a => by rw [u_I_ne _ _ (by omega)], fun j _ _ _ => by rw [u_I_ne _ _ (by decide)], fun j a => by simp only [u_I, if_true, if_neg a], fun j _ => by rw [u_I_ne _ _ (by decide)], fun j _ => by rw [u_I_ne _ _ (by decide)], fun j _ => by rw [u_I_ne _ _ (by decide)]⟩
theorem x66.mf {sd g : Nat} {I J : st_I} (h : x66 I J) : mf sd g I J := ⟨fun q a => h.1 q (by omega) (by omega) (by omega), fun j a b c => h.2 j a b c, fun j _ => by rw [h.1 69 (by decide) (by decide) (by decide)], fun j _ => by rw [h.1 70 (by decide) (by decide) (by decide)], fun j _ => by rw [h.1 71 (by decide) (by decide) (by decide)], fun j _ => by rw [h.1 72 (by decide) (by decide) (by decide)]⟩
/-- from the three INTs on -/
theorem m_fiddle_82 {d sd nf c tok : Nat} {B : Nat → Nat} {n : Nat} {J0 J : st_I} {M : st_L} {w : s4_X} {N N' : nm_X} {F : st_I → st_L → Prop} (hsd : sd ≤ 1) (hnf : nf < 8) (hc : c < 39) (ht : tok < spF B n 401 0) (H : rr B n J M w) (hl : lok w) (HN : rN B n J M N c w.2.2.1) (h19 : J 58 19 = nI sd) (h69 : J 69 sd = nI nf) (hx : mf sd (8 * sd + nf) J0 J)
    (hN : w.1 = 0 → w.2.2.1 = 0 → N' = pushN N tok 140 nf ∧ knF B n tok = 2 ∧ fnN B n N tok = none)
    (h : ∀ K M', rr B n K M' (fi8 B n (fi6 B n w)) → mf sd (8 * sd + nf) J0 K → (∀ q, q ≠ 66 → M' q = M q) → ((fi8 B n (fi6 B n w)).1 = 0 → rN B n K M' N' (c + 1) (fi8 B n (fi6 B n w)).2.2.1 ∧ K 69 sd = nI (nf + 1) ∧ K 70 (8 * sd + nf) = J 70 (8 * sd + nf) ∧ K 71 (3 * (8 * sd + nf)) = nI (ivA B n w) ∧ K 71 (3 * (8 * sd + nf) + 1) = nI (ivA B n (inA B n 20 w)) ∧ K 71 (3 * (8 * sd + nf) + 2) = nI (ivA B n (inA B n 20 (inA B n 20 w))) ∧ K 72 (8 * sd + nf) = b01 (foB B n 142 (fi6 B n w))) → F K M') : TV (d + 4) mX12_tellFiddle 82 [.ref 58, .int (nI (8 * sd + nf)), .int (nI tok), .int 0] [] J M F := by
  have vx : ∀ i, i < 3 → vp_in (nI (3 * (8 * sd + nf) + i)) 48 := fun i hi => vp_in_nI (by omega) (by decide)
  have ix : ∀ i, (3 : Int32) * nI (8 * sd + nf) + nI i = nI (3 * (8 * sd + nf) + i) := fun i => mx 3 (8 * sd + nf) i
  have cl : ∀ i, i < 3 → (nI (3 * (8 * sd + nf) + i)).toNatClampNeg = 3 * (8 * sd + nf) + i := fun i hi => nI_clamp (by omega)
  refine sgX12_tellFiddle_82 ?_
  rw [if_neg (by decide)]
  refine m_tolds (most := 20) H hl (by decide) (fun K1 y1 hK1 x1 e1 => ?_)
  rw [show (3 : Int32) * nI (8 * sd + nf) + 0 = nI (3 * (8 * sd + nf) + 0) from ix 0, cl 0 (by decide)]
  refine ⟨vx 0 (by decide), sgX12_tellFiddle_82 ?_⟩
  rw [if_neg (by decide)]
  refine m_tolds (most := 20) (rr_tab hK1 (by decide)) (lok_in hl) (by decide) (fun K2 y2 hK2 x2 e2 => ?_)
  rw [show (3 : Int32) * nI (8 * sd + nf) + (0 + 1) = nI (3 * (8 * sd + nf) + 1) from ix 1, cl 1 (by decide)]
  refine ⟨vx 1 (by decide), sgX12_tellFiddle_82 ?_⟩
  rw [if_neg (by decide)]
  refine m_tolds (most := 20) (rr_tab hK2 (by decide)) (lok_in (lok_in hl)) (by decide) (fun K3 y3 hK3 x3 e3 => ?_)
  rw [show (3 : Int32) * nI (8 * sd + nf) + (0 + 1 + 1) = nI (3 * (8 * sd + nf) + 2) from ix 2, cl 2 (by decide)]
  refine ⟨vx 2 (by decide), sgX12_tellFiddle_82 ?_⟩
  rw [if_pos (by decide)]
  have H6 : rr B n (u_I K3 71 (3 * (8 * sd + nf) + 2) y3) M (fi6 B n w) := rr_tab hK3 (by decide)
  have f6 : mf sd (8 * sd + nf) J (u_I K3 71 (3 * (8 * sd + nf) + 2) y3) := ((((x1.mf.tr (mf_71 (i := 0) (by decide))).tr x2.mf).tr (mf_71 (i := 1) (by decide))).tr x3.mf).tr (mf_71 (i := 2) (by decide))
  have d71 : ∀ K : st_I, (∀ j, K 71 j = (u_I K3 71 (3 * (8 * sd + nf) + 2) y3) 71 j) → K 71 (3 * (8 * sd + nf)) = y1 ∧ K 71 (3 * (8 * sd + nf) + 1) = y2 ∧ K 71 (3 * (8 * sd + nf) + 2) = y3 := by
    intro K hK
    have e32 := x3.1 71 (by decide)
    have e21 := x2.1 71 (by decide)
    refine ⟨?_, ?_, ?_⟩
    · rw [hK]; simp only [u_I, if_true, e32]; rw [if_neg (by omega), if_neg (by omega)]; simp [e21, u_I]
    · rw [hK]; simp only [u_I, if_true, e32]; rw [if_neg (by omega)]
    · rw [hK]; simp [u_I]
  have vg : vp_in (nI (8 * sd + nf)) 16 := vp_in_nI (by omega) (by decide)
  have g19 : ∀ K : st_I, mf sd (8 * sd + nf) J K → K 58 19 = nI sd := fun K hK => by rw [hK.2.1 19 (by decide) (by decide) (by omega)]; exact h19
  have l6 : lok (fi6 B n w) := lok_in (lok_in (lok_in hl))
  have HN6 : rN B n (u_I K3 71 (3 * (8 * sd + nf) + 2) y3) M N c w.2.2.1 := rN_tab ((rN_tab ((rN_tab (HN.r58 x1) (by decide)).r58 x2) (by decide)).r58 x3) (by decide)
  -- from the ';' on
  have last : ∀ K : st_I, rr B n K M (piA B n 142 (fi6 B n w)) → mf sd (8 * sd + nf) J K → rN B n K M N c w.2.2.1 → K 69 sd = nI nf → K 70 = J 70 → (∀ j, K 71 j = (u_I K3 71 (3 * (8 * sd + nf) + 2) y3) 71 j) → ((fi8 B n (fi6 B n w)).1 = 0 → K 72 (8 * sd + nf) = b01 (foB B n 142 (fi6 B n w))) → TV (d + 4) mX12_tellFiddle 141 [.ref 58, .null, .int (nI tok), .null] [] K M F := by
    intro K hK hf hr h69K h70K h71K h72K
    refine sgX12_tellFiddle_141 (m_must (k := 59) hK (by decide) (by decide) (by decide) (by decide) (fun K' hK' x' => ?_))
    by_cases z : (fi8 B n (fi6 B n w)).1 = 0
    · rw [show K' 58 13 = 0 by rw [hK'.2.2.2.1]; exact (congrArg nI z).trans nI_0, if_pos (by decide), g19 K' (hf.tr x'.mf), nI_clamp (by omega), x'.1 69 (by decide), h69K]
      refine ⟨vp_in_nI (by omega) (by decide), ?_⟩
      have a6 : (fi6 B n w).1 = 0 := pi_al (st_al z).1
      have a2 := in_al a6
      have a1 := in_al a2.1
      have a0 := in_al a1.1
      have lf6 : (fi8 B n (fi6 B n w)).2.2.1 = 0 → w.2.2.1 = 0 := fun q => by
        have e8 : (fi8 B n (fi6 B n w)).2.2 = (fi6 B n w).2.2 := by unfold fi8; exact (st_lf).trans pi_lf
        rw [e8] at q
        exact in_lf (in_lf (in_lf q))
      refine m_knows (so := 140) (wh := nf) (N' := N') hK' ((rN_lf hr lf6).r58 x') hc ht (by omega) (Or.inl rfl) (fun q => hN a0.1 (lf6 q)) (fun K4 M4 hK4 hr4 x4 m4 => ?_)
      have g4 := g19 K4 ((hf.tr x'.mf).tr x4.mf)
      rw [g4, nI_clamp (by omega), x4.1 69 (by decide) (by decide) (by decide), x'.1 69 (by decide), h69K, nI_1]
      refine ⟨vp_in_nI (by omega) (by decide), vp_in_nI (by omega) (by decide), ?_⟩
      obtain ⟨t1, t2, t3⟩ := d71 (u_I K4 69 sd (nI (nf + 1))) (fun j => by rw [u_I_ne _ _ (by decide), x4.1 71 (by decide) (by decide) (by decide), x'.1 71 (by decide)]; exact h71K j)
      refine h _ M4 (rr_tab hK4 (by decide)) ((((hx.tr hf).tr x'.mf).tr x4.mf).tr mf_69) m4 (fun _ => ⟨rN_tab hr4 (by decide), by simp [u_I], ?_, ?_, ?_, ?_, ?_⟩)
      · rw [u_I_ne _ _ (by decide), x4.1 70 (by decide) (by decide) (by decide), x'.1 70 (by decide), h70K]
      · rw [t1]; exact e1 a1.1
      · rw [t2]; exact e2 a2.1
      · rw [t3]; exact e3 a6
      · rw [u_I_ne _ _ (by decide), x4.1 72 (by decide) (by decide) (by decide), x'.1 72 (by decide)]; exact h72K z
    · have h2 := hK'.2.2.2.2.1
      rw [if_neg (show ¬ K' 58 13 ≤ 0 by rw [hK'.2.2.2.1]; exact nI_nle (Nat.pos_of_ne_zero z) (by omega))]
      exact h K' M hK' ((hx.tr hf).tr x'.mf) (fun _ _ => rfl) (fun q => absurd q z)
  refine m_is (k := 142) H6 (by decide) (by decide) (by decide) ?_
  rw [nI_clamp (by omega), nar_b01]
  refine ⟨vg, ?_⟩
  have H7 : rr B n (u_I (u_I K3 71 (3 * (8 * sd + nf) + 2) y3) 72 (8 * sd + nf) (b01 (decide ((fi6 B n w).1 = 0 ∧ knF B n (fi6 B n w).2.1 = 142)))) M (fi6 B n w) := rr_tab H6 (by decide)
  have f7 := f6.tr (mf_72 (sd := sd) (g := 8 * sd + nf) (x := b01 (decide ((fi6 B n w).1 = 0 ∧ knF B n (fi6 B n w).2.1 = 142))))
  have N7 : rN B n (u_I (u_I K3 71 (3 * (8 * sd + nf) + 2) y3) 72 (8 * sd + nf) (b01 (decide ((fi6 B n w).1 = 0 ∧ knF B n (fi6 B n w).2.1 = 142)))) M N c w.2.2.1 := rN_tab HN6 (by decide)
  have e69 : (u_I (u_I K3 71 (3 * (8 * sd + nf) + 2) y3) 72 (8 * sd + nf) (b01 (decide ((fi6 B n w).1 = 0 ∧ knF B n (fi6 B n w).2.1 = 142)))) 69 sd = nI nf := by
    rw [u_I_ne _ _ (by decide), u_I_ne _ _ (by decide), x3.1 69 (by decide), u_I_ne _ _ (by decide), x2.1 69 (by decide), u_I_ne _ _ (by decide), x1.1 69 (by decide)]; exact h69
  have e70 : (u_I (u_I K3 71 (3 * (8 * sd + nf) + 2) y3) 72 (8 * sd + nf) (b01 (decide ((fi6 B n w).1 = 0 ∧ knF B n (fi6 B n w).2.1 = 142)))) 70 = J 70 := by
    rw [u_I_ne _ _ (by decide), u_I_ne _ _ (by decide), x3.1 70 (by decide), u_I_ne _ _ (by decide), x2.1 70 (by decide), u_I_ne _ _ (by decide), x1.1 70 (by decide)]
  have e13 := H6.2.2.2.1
  rw [e13]
  by_cases z : (fi6 B n w).1 = 0
  · rw [if_pos (by rw [z]; exact nI_0)]
    refine m_is (k := 142) H7 (by decide) (by decide) (by decide) ?_
    by_cases y : knF B n (fi6 B n w).2.1 = 142
    · rw [decide_eq_true (show (fi6 B n w).1 = 0 ∧ knF B n (fi6 B n w).2.1 = 142 from ⟨z, y⟩), if_neg (by decide)]
      rw [decide_eq_true (show (fi6 B n w).1 = 0 ∧ knF B n (fi6 B n w).2.1 = 142 from ⟨z, y⟩)] at H7 f7 N7 e69 e70
      refine m_goesOn H7 z (by omega) (fun K8 hK8 x8 => ?_)
      have ep : piA B n 142 (fi6 B n w) = stA true (fi6 B n w) := by unfold piA paA; rw [if_pos y, decide_eq_true y]
      refine last K8 (by rw [ep]; exact hK8) (f7.tr x8.mf) (N7.r58 x8) (by rw [x8.1 69 (by decide)]; exact e69) (by rw [x8.1 70 (by decide)]; exact e70) (fun j => by rw [x8.1 71 (by decide), u_I_ne _ _ (by decide)]) (fun q => ?_)
      rw [x8.1 72 (by decide)]
      have a8 : (piA B n 142 (fi6 B n w)).1 = 0 := (st_al q).1
      have : foB B n 142 (fi6 B n w) = true := decide_eq_true ⟨z, y, by unfold piA at a8; rw [if_pos y] at a8; exact a8⟩
      rw [this]; simp [u_I]
    · rw [decide_eq_false (fun q => y q.2), if_pos (by decide)]
      rw [decide_eq_false (fun q => y q.2)] at H7 f7 N7 e69 e70
      have ep : piA B n 142 (fi6 B n w) = fi6 B n w := by unfold piA; rw [if_neg y]
      refine last _ (by rw [ep]; exact H7) f7 N7 e69 e70 (fun j => by rw [u_I_ne _ _ (by decide)]) (fun q => ?_)
      have : foB B n 142 (fi6 B n w) = false := decide_eq_false (fun q => y q.2.1)
      rw [this]; simp [u_I]
  · rw [if_neg (nI_ne0 (Nat.pos_of_ne_zero z) (by have := H6.2.2.2.2.1; omega))]
    have ep : piA B n 142 (fi6 B n w) = fi6 B n w := pi_dead z
    refine last _ (by rw [ep]; exact H7) f7 N7 e69 e70 (fun j => by rw [u_I_ne _ _ (by decide)]) (fun q => ?_)
    exact absurd (pi_al (st_al q).1) z
