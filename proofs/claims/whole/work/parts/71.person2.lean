/-! read: a PERSON's tell, in the reference -/
/-- its frame: row g = 10 side + person -/
def mq (sd g : Nat) (I J : st_I) : Prop := (∀ q, q < 58 ∨ (58 < q ∧ q < 67) ∨ (68 < q ∧ q < 73) ∨ 76 < q → J q = I q) ∧ (∀ j, j ≠ 11 → j ≠ 20 → j < 13 ∨ 16 < j → J 58 j = I 58 j) ∧ (∀ j, j ≠ sd → J 73 j = I 73 j) ∧ (∀ j, j ≠ g → J 74 j = I 74 j) ∧ (∀ j, j < 3 * g ∨ 3 * g + 3 ≤ j → J 75 j = I 75 j) ∧ ∀ j, j ≠ g → J 76 j = I 76 j
theorem mq.tr {sd g : Nat} {I J K : st_I} (h : mq sd g I J) (k : mq sd g J K) : mq sd g I K := ⟨fun q a => (k.1 q a).trans (h.1 q a), fun j a b c => (k.2.1 j a b c).trans (h.2.1 j a b c), fun j a => (k.2.2.1 j a).trans (h.2.2.1 j a), fun j a => (k.2.2.2.1 j a).trans (h.2.2.2.1 j a), fun j a => (k.2.2.2.2.1 j a).trans (h.2.2.2.2.1 j a), fun j a => (k.2.2.2.2.2 j a).trans (h.2.2.2.2.2 j a)⟩
theorem r58.mq {sd g : Nat} {I J : st_I} (h : r58 I J) : mq sd g I J := ⟨fun q a => h.1 q (by omega), fun j a _ c => h.2 j a c, fun j _ => by rw [h.1 73 (by decide)], fun j _ => by rw [h.1 74 (by decide)], fun j _ => by rw [h.1 75 (by decide)], fun j _ => by rw [h.1 76 (by decide)]⟩
theorem mq_74 {sd g : Nat} {I : st_I} {x : Int32} : mq sd g I (u_I I 74 g x) := ⟨fun q a => by rw [u_I_ne _ _ (by omega)], fun j _ _ _ => by rw [u_I_ne _ _ (by decide)], fun j _ => by rw [u_I_ne _ _ (by decide)], fun j a => by simp only [u_I, if_true, if_neg a], fun j _ => by rw [u_I_ne _ _ (by decide)], fun j _ => by rw [u_I_ne _ _ (by decide)]⟩
theorem mq_76 {sd g : Nat} {I : st_I} {x : Int32} : mq sd g I (u_I I 76 g x) := ⟨fun q a => by rw [u_I_ne _ _ (by omega)], fun j _ _ _ => by rw [u_I_ne _ _ (by decide)], fun j _ => by rw [u_I_ne _ _ (by decide)], fun j _ => by rw [u_I_ne _ _ (by decide)], fun j _ => by rw [u_I_ne _ _ (by decide)], fun j a => by simp only [u_I, if_true, if_neg a]⟩
theorem mq_75 {sd g i : Nat} {I : st_I} {x : Int32} (h : i < 3) : mq sd g I (u_I I 75 (3 * g + i) x) := ⟨fun q a => by rw [u_I_ne _ _ (by omega)], fun j _ _ _ => by rw [u_I_ne _ _ (by decide)], fun j _ => by rw [u_I_ne _ _ (by decide)], fun j _ => by rw [u_I_ne _ _ (by decide)], fun j a => by simp only [u_I, if_true]; rw [if_neg (by omega)], fun j _ => by rw [u_I_ne _ _ (by decide)]⟩
theorem mq_73 {sd g : Nat} {I : st_I} {x : Int32} : mq sd g I (u_I I 73 sd x) := ⟨fun q a => by rw [u_I_ne _ _ (by omega)], fun j _ _ _ => by rw [u_I_ne _ _ (by decide)], fun j a => by simp only [u_I, if_true, if_neg a], fun j _ => by rw [u_I_ne _ _ (by decide)], fun j _ => by rw [u_I_ne _ _ (by decide)], fun j _ => by rw [u_I_ne _ _ (by decide)]⟩
theorem x66.mq {sd g : Nat} {I J : st_I} (h : x66 I J) : mq sd g I J := ⟨fun q a => h.1 q (by omega) (by omega) (by omega), fun j a b c => h.2 j a b c, fun j _ => by rw [h.1 73 (by decide) (by decide) (by decide)], fun j _ => by rw [h.1 74 (by decide) (by decide) (by decide)], fun j _ => by rw [h.1 75 (by decide) (by decide) (by decide)], fun j _ => by rw [h.1 76 (by decide) (by decide) (by decide)]⟩
theorem m_person_41 {d sd np c tok : Nat} {B : Nat → Nat} {n : Nat} {J0 J : st_I} {M : st_L} {w : s4_X} {N N' : nm_X} {F : st_I → st_L → Prop} (hsd : sd ≤ 1) (hnp : np < 10) (hc : c < 39) (ht : tok < spF B n 401 0) (H : rr B n J M w) (hl : lok w) (HN : rN B n J M N c w.2.2.1) (h19 : J 58 19 = nI sd) (h73 : J 73 sd = nI np) (hx : mq sd (10 * sd + np) J0 J)
    (hN : w.1 = 0 → w.2.2.1 = 0 → N' = pushN N tok 143 np ∧ knF B n tok = 2 ∧ fnN B n N tok = none)
    (h : ∀ K M', rr B n K M' (paA B n 59 (pe6 B n w)) → mq sd (10 * sd + np) J0 K → (∀ q, q ≠ 66 → M' q = M q) → ((paA B n 59 (pe6 B n w)).1 = 0 → rN B n K M' N' (c + 1) (paA B n 59 (pe6 B n w)).2.2.1 ∧ K 73 sd = nI (np + 1) ∧ K 74 (10 * sd + np) = J 74 (10 * sd + np) ∧ K 75 (3 * (10 * sd + np)) = nI (ivA B n w) ∧ K 75 (3 * (10 * sd + np) + 1) = nI (ivA B n (inA B n 9 w)) ∧ K 75 (3 * (10 * sd + np) + 2) = nI (ivA B n (inA B n 9 (inA B n 9 w))) ∧ K 76 (10 * sd + np) = nI (ivA B n (inA B n 9 (inA B n 9 (inA B n 9 w))))) → F K M') : TV (d + 4) mX12_tellPerson 41 [.ref 58, .int (nI (10 * sd + np)), .int (nI tok), .int 0] [] J M F := by
  have vx : ∀ i, i < 3 → vp_in (nI (3 * (10 * sd + np) + i)) 60 := fun i hi => vp_in_nI (by omega) (by decide)
  have ix : ∀ i, (3 : Int32) * nI (10 * sd + np) + nI i = nI (3 * (10 * sd + np) + i) := fun i => mx 3 (10 * sd + np) i
  have cl : ∀ i, i < 3 → (nI (3 * (10 * sd + np) + i)).toNatClampNeg = 3 * (10 * sd + np) + i := fun i hi => nI_clamp (by omega)
  have vg : vp_in (nI (10 * sd + np)) 20 := vp_in_nI (by omega) (by decide)
  refine sgX12_tellPerson_41 ?_
  rw [if_neg (by decide)]
  refine m_tolds (most := 9) H hl (by decide) (fun K1 y1 hK1 x1 e1 => ?_)
  rw [show (3 : Int32) * nI (10 * sd + np) + 0 = nI (3 * (10 * sd + np) + 0) from ix 0, cl 0 (by decide)]
  refine ⟨vx 0 (by decide), sgX12_tellPerson_41 ?_⟩
  rw [if_neg (by decide)]
  refine m_tolds (most := 9) (rr_tab hK1 (by decide)) (lok_in hl) (by decide) (fun K2 y2 hK2 x2 e2 => ?_)
  rw [show (3 : Int32) * nI (10 * sd + np) + (0 + 1) = nI (3 * (10 * sd + np) + 1) from ix 1, cl 1 (by decide)]
  refine ⟨vx 1 (by decide), sgX12_tellPerson_41 ?_⟩
  rw [if_neg (by decide)]
  refine m_tolds (most := 9) (rr_tab hK2 (by decide)) (lok_in (lok_in hl)) (by decide) (fun K3 y3 hK3 x3 e3 => ?_)
  rw [show (3 : Int32) * nI (10 * sd + np) + (0 + 1 + 1) = nI (3 * (10 * sd + np) + 2) from ix 2, cl 2 (by decide)]
  refine ⟨vx 2 (by decide), sgX12_tellPerson_41 ?_⟩
  rw [if_pos (by decide)]
  refine m_tolds (most := 9) (rr_tab hK3 (by decide)) (lok_in (lok_in (lok_in hl))) (by decide) (fun K5 y5 hK5 x5 e5 => ?_)
  rw [nI_clamp (by omega)]
  refine ⟨vg, ?_⟩
  have H6 : rr B n (u_I K5 76 (10 * sd + np) y5) M (pe6 B n w) := rr_tab hK5 (by decide)
  have f6 : mq sd (10 * sd + np) J (u_I K5 76 (10 * sd + np) y5) := ((((((x1.mq.tr (mq_75 (i := 0) (by decide))).tr x2.mq).tr (mq_75 (i := 1) (by decide))).tr x3.mq).tr (mq_75 (i := 2) (by decide))).tr x5.mq).tr mq_76
  have HN6 : rN B n (u_I K5 76 (10 * sd + np) y5) M N c w.2.2.1 := rN_tab ((rN_tab ((rN_tab ((rN_tab (HN.r58 x1) (by decide)).r58 x2) (by decide)).r58 x3) (by decide)).r58 x5) (by decide)
  refine m_must (k := 59) H6 (by decide) (by decide) (by decide) (by decide) (fun K' hK' x' => ?_)
  by_cases z : (paA B n 59 (pe6 B n w)).1 = 0
  · have g19 : K' 58 19 = nI sd := by rw [(f6.tr x'.mq).2.1 19 (by decide) (by decide) (by omega)]; exact h19
    have g73 : K' 73 sd = nI np := by
      rw [x'.1 73 (by decide), u_I_ne _ _ (by decide), x5.1 73 (by decide), u_I_ne _ _ (by decide), x3.1 73 (by decide), u_I_ne _ _ (by decide), x2.1 73 (by decide), u_I_ne _ _ (by decide), x1.1 73 (by decide)]; exact h73
    rw [show K' 58 13 = 0 by rw [hK'.2.2.2.1]; exact (congrArg nI z).trans nI_0, if_pos (by decide), g19, nI_clamp (by omega), g73]
    refine ⟨vp_in_nI (by omega) (by decide), ?_⟩
    have a6 : (pe6 B n w).1 = 0 := (st_al z).1
    have a3 := in_al a6
    have a2 := in_al a3.1
    have a1 := in_al a2.1
    have a0 := in_al a1.1
    have lf6 : (paA B n 59 (pe6 B n w)).2.2.1 = 0 → w.2.2.1 = 0 := fun q => by
      have e8 : (paA B n 59 (pe6 B n w)).2.2 = (pe6 B n w).2.2 := st_lf
      rw [e8] at q
      exact in_lf (in_lf (in_lf (in_lf q)))
    refine m_knows (so := 143) (wh := np) (N' := N') hK' ((rN_lf HN6 lf6).r58 x') hc ht (by omega) (Or.inr (Or.inl rfl)) (fun q => hN a0.1 (lf6 q)) (fun K4 M4 hK4 hr4 x4 m4 => ?_)
    have g4 : K4 58 19 = nI sd := by rw [x4.2 19 (by decide) (by decide) (by omega)]; exact g19
    rw [g4, nI_clamp (by omega), x4.1 73 (by decide) (by decide) (by decide), g73, nI_1]
    refine ⟨vp_in_nI (by omega) (by decide), vp_in_nI (by omega) (by decide), ?_⟩
    have back : ∀ q, q ≠ 58 → q ≠ 67 → q ≠ 68 → q ≠ 73 → (u_I K4 73 sd (nI (np + 1))) q = (u_I K5 76 (10 * sd + np) y5) q := fun q b1 b2 b3 b4 => by rw [u_I_ne _ _ b4, x4.1 q b1 b2 b3, x'.1 q b1]
    have e53 : K5 75 = (u_I K3 75 (3 * (10 * sd + np) + 2) y3) 75 := x5.1 75 (by decide)
    have e32 : K3 75 = (u_I K2 75 (3 * (10 * sd + np) + 1) y2) 75 := x3.1 75 (by decide)
    have e21 : K2 75 = (u_I K1 75 (3 * (10 * sd + np) + 0) y1) 75 := x2.1 75 (by decide)
    refine h _ M4 (rr_tab hK4 (by decide)) ((((hx.tr f6).tr x'.mq).tr x4.mq).tr mq_73) m4 (fun _ => ⟨rN_tab hr4 (by decide), by simp [u_I], ?_, ?_, ?_, ?_, ?_⟩)
    · rw [back 74 (by decide) (by decide) (by decide) (by decide), u_I_ne _ _ (by decide), x5.1 74 (by decide), u_I_ne _ _ (by decide), x3.1 74 (by decide), u_I_ne _ _ (by decide), x2.1 74 (by decide), u_I_ne _ _ (by decide), x1.1 74 (by decide)]
    · rw [back 75 (by decide) (by decide) (by decide) (by decide), u_I_ne _ _ (by decide), e53]
      simp only [u_I, if_true, e32]
      rw [if_neg (by omega), if_neg (by omega), e21]
      simp only [u_I, if_true, Nat.add_zero]
      exact e1 a1.1
    · rw [back 75 (by decide) (by decide) (by decide) (by decide), u_I_ne _ _ (by decide), e53]
      simp only [u_I, if_true, e32]
      rw [if_neg (by omega)]
      exact e2 a2.1
    · rw [back 75 (by decide) (by decide) (by decide) (by decide), u_I_ne _ _ (by decide), e53]
      simp only [u_I, if_true]
      exact e3 a3.1
    · rw [back 76 (by decide) (by decide) (by decide) (by decide)]
      simp only [u_I, if_true]
      exact e5 a6
  · have h2 := hK'.2.2.2.2.1
    rw [if_neg (show ¬ K' 58 13 ≤ 0 by rw [hK'.2.2.2.1]; exact nI_nle (Nat.pos_of_ne_zero z) (by omega))]
    exact h K' M hK' ((hx.tr f6).tr x'.mq) (fun _ _ => rfl) (fun q => absurd q z)
