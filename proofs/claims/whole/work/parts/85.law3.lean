/-! read: a LAW's tell, in the reference -/
theorem nw_new {B : Nat → Nat} {n so wh : Nat} {N : nm_X} {s : s4_X} (z : (nwA B n N s).1 = 0) (q : (nwA B n N s).2.2.1 = 0) : nwN B n N s so wh = pushN N s.2.1 so wh ∧ knF B n s.2.1 = 2 ∧ fnN B n N s.2.1 = none := by
  have al := (nw_al z).2
  have q2 := (nw_lf q).2
  rw [al, Bool.true_and] at q2
  have fn : fnN B n N s.2.1 = none := by
    cases hf : fnN B n N s.2.1 with
    | none => rfl
    | some a => rw [hf] at q2; exact absurd (show true = false from q2) (by decide)
  refine ⟨?_, (alv_2 al).2.1, fn⟩
  unfold nwN
  rw [al, fn]; rfl
theorem pf_lf {b : Bool} {s : s4_X} : (pfA b s).2.2 = s.2.2 := by
  unfold pfA; split
  · rfl
  · exact st_lf
theorem lok_pf {b : Bool} {s : s4_X} (h : lok s) : lok (pfA b s) := by
  unfold pfA; split
  · exact fun q => absurd (show (2 : Nat) = 0 from q) (by decide)
  · exact lok_st h
theorem stE_lk {B : Nat → Nat} {n : Nat} {due : Bool} {s : s4_X} {e : e5_X} : (lok s → lok (stE B n due s e).1) ∧ ((stE B n due s e).1.2.2.1 = 0 → s.2.2.1 = 0) := by
  unfold stE
  split
  · unfold uA
    split
    · exact ⟨fun h => lok_pf h, fun h => by rw [show (pfA (decide (6 ≤ e.2.2.1)) s).2.2 = s.2.2 from pf_lf] at h; exact h⟩
    · split
      · exact ⟨fun h => lok_st h, fun h => by rw [show (stA true s).2.2 = s.2.2 from st_lf] at h; exact h⟩
      · exact ⟨fun h => lok_in h, fun h => in_lf h⟩
  · unfold gA
    have st : ∀ b, (lok s → lok (stA b s)) ∧ ((stA b s).2.2.1 = 0 → s.2.2.1 = 0) := fun b => ⟨fun h => lok_st h, fun h => by rw [show (stA b s).2.2 = s.2.2 from st_lf] at h; exact h⟩
    split
    · exact st _
    · split
      · exact st _
      · split
        · exact ⟨fun h => h, fun h => h⟩
        · split
          · exact st _
          · exact st _
theorem exL_lk {B : Nat → Nat} {n : Nat} : ∀ r due s e, (lok s → lok (exL B n r due s e).1) ∧ ((exL B n r due s e).1.2.2.1 = 0 → s.2.2.1 = 0)
  | 0, _, _, _ => ⟨fun h => h, fun h => h⟩
  | r + 1, due, s, e => by
    rw [exL]
    by_cases hs : s.1 = 0
    · rw [if_pos hs]
      have q := stE_lk (B := B) (n := n) (due := due) (s := s) (e := e)
      by_cases c : (stE B n due s e).2.2 = 0
      · rw [if_pos c]; exact q
      · rw [if_neg c]
        have i := exL_lk (B := B) (n := n) r (decide ((stE B n due s e).2.2 = 2)) (stE B n due s e).1 (stE B n due s e).2.1
        exact ⟨fun h => i.1 (q.1 h), fun h => q.2 (i.2 h)⟩
    · rw [if_neg hs]; exact ⟨fun h => h, fun h => h⟩
theorem m_exp {d sd c : Nat} {B : Nat → Nat} {n : Nat} {C : Nat → Int32} {s : s4_X} {J : st_I} {M : st_L} {F : st_I → st_L → Prop} (hsd : sd ≤ 1) (H : rr B n J M s) (hc : s.1 = 0 → c + 3 ≤ s.2.1 ∧ J 58 12 = nI 0) (h44 : J 58 44 = nI (420 * sd + c)) (hC : ∀ j, j < c → iv_code (C j) (J 89 (420 * sd + j)) (J 90 (420 * sd + j))) (h : ∀ K, rr B n K M (exL B n 402 true s (e0_X C c)).1 → me sd J K → ((exL B n 402 true s (e0_X C c)).1.1 = 0 → rE sd K (exL B n 402 true s (e0_X C c)).2) → F K M) : EV (d + 4) mX12_expression [.ref 58] J M F := by
  refine sgX12_expression_0 ?_
  have H0 : rr B n (u_I J 58 48 0) M s := rr_58 H (by omega)
  have x0 : me sd J (u_I J 58 48 0) := me_k (by omega)
  by_cases hs : s.1 = 0
  · rw [if_pos (show J 58 13 = 0 by rw [H.2.2.2.1, hs]; exact nI_0)]
    have HE : rE sd (u_I J 58 48 0) (e0_X C c) := by
      refine ⟨⟨by simp [u_I]; rfl, fun i hi => absurd hi (Nat.not_lt_zero _)⟩, by simp [u_I]; exact (hc hs).2, by simp [u_I]; exact h44, fun j hj => ?_⟩
      rw [u_I_ne _ _ (by decide), u_I_ne _ _ (by decide)]; exact hC j hj
    have := m_exp_18 (B := B) (n := n) (M := M) (F := F) (J0 := J) (d := d) (a := c) hsd 402 true s (e0_X C c) 0 0 _ (by omega) H0 x0 (fun z => ⟨by have := H.lt.1; omega, Nat.zero_le _, HE, gE_0 (hc z).1⟩) h
    rwa [if_pos rfl] at this
  · rw [if_neg (by rw [H.2.2.2.1]; exact nI_ne0 (Nat.pos_of_ne_zero hs) (by have := H.2.2.2.2.1; omega))]
    refine sgX12_expression_18 ?_
    rw [if_pos rfl]
    rw [exL, if_neg hs] at h
    exact h _ H0 x0 (fun q => absurd q hs)
/-- frame of a LAW's tell in the reference: row g = 6 side + law -/
def ml (sd g : Nat) (I J : st_I) : Prop := (∀ q, q < 58 ∨ (58 < q ∧ q < 67) ∨ (68 < q ∧ q < 79) ∨ (81 < q ∧ q < 89) ∨ 91 < q → J q = I q) ∧ (∀ j, j ≠ 11 → j ≠ 12 → j ≠ 20 → j ≠ 44 → j ≠ 48 → j < 13 ∨ 16 < j → J 58 j = I 58 j) ∧ (∀ j, j ≠ sd → J 79 j = I 79 j) ∧ (∀ j, j ≠ g → J 80 j = I 80 j ∧ J 81 j = I 81 j) ∧ ∀ j, j < 420 * sd ∨ 420 * sd + 420 ≤ j → J 89 j = I 89 j ∧ J 90 j = I 90 j
theorem ml.rf {sd g : Nat} {I : st_I} : ml sd g I I := ⟨fun _ _ => rfl, fun _ _ _ _ _ _ _ => rfl, fun _ _ => rfl, fun _ _ => ⟨rfl, rfl⟩, fun _ _ => ⟨rfl, rfl⟩⟩
theorem ml.tr {sd g : Nat} {I J K : st_I} (h : ml sd g I J) (k : ml sd g J K) : ml sd g I K := ⟨fun q a => (k.1 q a).trans (h.1 q a), fun j a b c d e f => (k.2.1 j a b c d e f).trans (h.2.1 j a b c d e f), fun j a => (k.2.2.1 j a).trans (h.2.2.1 j a), fun j a => ⟨(k.2.2.2.1 j a).1.trans (h.2.2.2.1 j a).1, (k.2.2.2.1 j a).2.trans (h.2.2.2.1 j a).2⟩, fun j a => ⟨(k.2.2.2.2 j a).1.trans (h.2.2.2.2 j a).1, (k.2.2.2.2 j a).2.trans (h.2.2.2.2 j a).2⟩⟩
theorem me.ml {sd g : Nat} {I J : st_I} (h : me sd I J) : ml sd g I J := ⟨fun q a => h.1 q (by omega) (by omega) (by omega) (by omega), fun j a b _ c d e => h.2.1 j a b c d e, fun j _ => by rw [h.1 79 (by decide) (by decide) (by decide) (by decide)], fun j _ => by rw [h.1 80 (by decide) (by decide) (by decide) (by decide), h.1 81 (by decide) (by decide) (by decide) (by decide)]; exact ⟨rfl, rfl⟩, h.2.2⟩
theorem r58.ml {sd g : Nat} {I J : st_I} (h : r58 I J) : ml sd g I J := h.me.ml
theorem ml_80 {sd g k : Nat} {I : st_I} {x : Int32} (h : k = 80 ∨ k = 81) : ml sd g I (u_I I k g x) := ⟨fun q a => by rw [u_I_ne _ _ (by omega)], fun j _ _ _ _ _ _ => by rw [u_I_ne _ _ (by omega)], fun j _ => by rw [u_I_ne _ _ (by omega)], fun j a => by
  rcases h with rfl | rfl
  · rw [u_I_ne _ _ (show 81 ≠ 80 by decide)]; simp only [u_I, if_true, if_neg a]; exact ⟨trivial, trivial⟩
  · rw [u_I_ne _ _ (show 80 ≠ 81 by decide)]; simp only [u_I, if_true, if_neg a]; exact ⟨trivial, trivial⟩, fun j _ => by rw [u_I_ne _ _ (by omega), u_I_ne _ _ (by omega)]; exact ⟨rfl, rfl⟩⟩
theorem ml_79 {sd g : Nat} {I : st_I} {x : Int32} : ml sd g I (u_I I 79 sd x) := ⟨fun q a => by rw [u_I_ne _ _ (by omega)], fun j _ _ _ _ _ _ => by rw [u_I_ne _ _ (by decide)], fun j a => by simp only [u_I, if_true, if_neg a], fun j _ => by rw [u_I_ne _ _ (by decide), u_I_ne _ _ (by decide)]; exact ⟨rfl, rfl⟩, fun j _ => by rw [u_I_ne _ _ (by decide), u_I_ne _ _ (by decide)]; exact ⟨rfl, rfl⟩⟩
theorem x66.ml {sd g : Nat} {I J : st_I} (h : x66 I J) : ml sd g I J := ⟨fun q a => h.1 q (by omega) (by omega) (by omega), fun j a _ b _ _ c => h.2 j a b c, fun j _ => by rw [h.1 79 (by decide) (by decide) (by decide)], fun j _ => by rw [h.1 80 (by decide) (by decide) (by decide), h.1 81 (by decide) (by decide) (by decide)]; exact ⟨rfl, rfl⟩, fun j _ => by rw [h.1 89 (by decide) (by decide) (by decide), h.1 90 (by decide) (by decide) (by decide)]; exact ⟨rfl, rfl⟩⟩
theorem rN.me {B : Nat → Nat} {n sd c lf : Nat} {J K : st_I} {M : st_L} {N : nm_X} (H : rN B n J M N c lf) (h : me sd J K) : rN B n K M N c lf := by
  unfold rN
  rw [h.2.1 20 (by decide) (by decide) (by decide) (by decide) (by omega), h.1 67 (by decide) (by decide) (by decide) (by decide), h.1 68 (by decide) (by decide) (by decide) (by decide)]; exact H
theorem m_law {d sd nl c cn : Nat} {B : Nat → Nat} {n : Nat} {C : Nat → Int32} {J : st_I} {M : st_L} {s : s4_X} {N : nm_X} {F : st_I → st_L → Prop} (hsd : sd ≤ 1) (hnl : nl ≤ 6) (hcn : cn < 39) (H : rr B n J M s) (hl : lok s) (HN : rN B n J M N cn s.2.2.1) (hs : s.1 = 0) (hk : knF B n s.2.1 = 146) (h19 : J 58 19 = nI sd) (h79 : J 79 sd = nI nl) (hc : c ≤ s.2.1) (h12 : J 58 12 = nI 0) (h44 : J 58 44 = nI (420 * sd + c)) (hC : ∀ j, j < c → iv_code (C j) (J 89 (420 * sd + j)) (J 90 (420 * sd + j)))
    (h : ∀ K M', rr B n K M' (laS B n N nl C c s) → ml sd (6 * sd + nl) J K → (∀ q, q ≠ 66 → M' q = M q) → ((laS B n N nl C c s).1 = 0 → rN B n K M' (nwN B n N (pfA (decide (6 ≤ nl)) s) 146 nl) (cn + 1) (laS B n N nl C c s).2.2.1 ∧ K 79 sd = nI (nl + 1) ∧ K 80 (6 * sd + nl) = nI (420 * sd + c) ∧ K 81 (6 * sd + nl) = nI (420 * sd + (laX B n N nl C c s).2.2.2.2.2) ∧ K 58 44 = nI (420 * sd + (laX B n N nl C c s).2.2.2.2.2) ∧ K 58 12 = nI 0 ∧ ∀ j, j < (laX B n N nl C c s).2.2.2.2.2 → iv_code ((laX B n N nl C c s).2.2.2.2.1 j) (K 89 (420 * sd + j)) (K 90 (420 * sd + j))) → F K M') : EV (d + 6) mX12_tell [.ref 58] J M F := by
  obtain ⟨l1, l2, l3, l4, l5, l6, l7⟩ := H.lt
  have vs : vp_in (nI sd) 2 := vp_in_nI (by omega) (by decide)
  refine sgX12_tell_0 ?_
  rw [l3, nI_clamp (by omega), l4, hk]
  refine ⟨l2, ?_⟩
  rw [if_neg (by decide), if_neg (by decide), if_neg (by decide), if_neg (by decide), if_pos (by decide), h19, nI_clamp (by omega), h79]
  refine ⟨vs, ?_⟩
  by_cases full : 6 ≤ nl
  · have e8 : nl = 6 := by omega
    rw [if_pos (by rw [e8]; rfl)]
    have ep : pfA (decide (6 ≤ nl)) s = (2, s.2) := pf_full (decide_eq_true full) hs
    have ef : laS B n N nl C c s = (2, s.2) := by
      unfold laS; rw [ep, if_neg (show ¬ (2 : Nat) = 0 by decide)]
    rw [ef] at h
    refine m_fail (k := 2) H (by decide) (by decide) (fun K hK hx => ?_)
    have eq : fiA 2 s = (2, s.2) := by unfold fiA; rw [if_pos hs]
    rw [eq] at hK
    refine sgX12_tell_177 ?_
    rw [if_neg (show ¬ K 58 13 = 0 by rw [hK.2.2.2.1]; exact nI_ne0 (show 0 < 2 by decide) (show 2 < 2 ^ 31 by decide))]
    exact h K M hK hx.ml (fun _ _ => rfl) (fun q => absurd (show (2 : Nat) = 0 from q) (by decide))
  · rw [if_neg (fun q => full (by have := (nI_eq (b := 6) (by omega) (by decide)).mp q; omega))]
    have ep : pfA (decide (6 ≤ nl)) s = stA true s := pf_no (decide_eq_false full)
    refine sgX12_tell_177 ?_
    rw [if_pos (show J 58 13 = 0 by rw [H.2.2.2.1, hs]; exact nI_0)]
    refine sgX12_tellLaw_0 ?_
    rw [h19, nI_clamp (by omega), h79, show (6 : Int32) * nI sd + nI nl = nI (6 * sd + nl) from mx 6 sd nl, nI_clamp (show 6 * sd + nl < 2 ^ 31 by omega)]
    refine ⟨vs, m_goesOn H hs (by omega) (fun K1 hK1 x1 => ?_)⟩
    have HN1 : rN B n K1 M N cn (stA true s).2.2.1 := rN_lf (HN.r58 x1) (fun q => by rw [show (stA true s).2.2 = s.2.2 from st_lf] at q; exact q)
    refine m_named hK1 (lok_st hl) HN1 (fun K2 hK2 x2 => ?_)
    refine m_must (k := 61) hK2 (by decide) (by decide) (by decide) (by decide) (fun K3 hK3 x3 => ?_)
    have e2 : paA B n 61 (nwA B n N (stA true s)) = la2 B n N nl s := by unfold la2; rw [ep]
    rw [e2] at hK3
    have x13 := (x1.tr x2).tr x3
    have HN3 : rN B n K3 M N cn (nwA B n N (stA true s)).2.2.1 := (rN_lf (HN1.r58 x2) (fun q => (nw_lf q).1)).r58 x3
    have v12 : vp_in (nI (6 * sd + nl)) 12 := vp_in_nI (by omega) (by decide)
    refine ⟨v12, ?_⟩
    have e44 : K3 58 44 = nI (420 * sd + c) := by rw [x13.2 44 (by decide) (by omega)]; exact h44
    have y3 : ml sd (6 * sd + nl) J (u_I K3 80 (6 * sd + nl) (K3 58 44)) := x13.ml.tr (ml_80 (by omega))
    have elx : laX B n N nl C c s = exL B n 402 true (la2 B n N nl s) (e0_X C c) := rfl
    refine m_exp (d := d) (c := c) (C := C) hsd (rr_tab hK3 (by decide)) (fun z => ⟨?_, ?_⟩) ?_ (fun j hj => ?_) (fun K4 hK4 x4 E4 => ?_)
    · have := la2_al (nl := nl) (N := N) (s := s) z
      omega
    · rw [u_I_ne _ _ (by decide), x13.2 12 (by decide) (by omega)]; exact h12
    · rw [u_I_ne _ _ (by decide)]; exact e44
    · rw [u_I_ne _ _ (by decide), u_I_ne _ _ (by decide), x13.1 89 (by decide), x13.1 90 (by decide)]; exact hC j hj
    rw [← elx] at hK4 E4
    refine ⟨v12, ?_⟩
    have HN4 : rN B n (u_I K4 81 (6 * sd + nl) (K4 58 44)) M N cn (nwA B n N (stA true s)).2.2.1 := rN_tab ((rN_tab HN3 (by decide)).me x4) (by decide)
    have y4 : ml sd (6 * sd + nl) J (u_I K4 81 (6 * sd + nl) (K4 58 44)) := (y3.tr x4.ml).tr (ml_80 (by omega))
    refine m_must (k := 59) (rr_tab hK4 (by decide)) (by decide) (by decide) (by decide) (by decide) (fun K5 hK5 x5 => ?_)
    have efi : laS B n N nl C c s = paA B n 59 (laX B n N nl C c s).1 := by
      unfold laS
      rw [ep]
      by_cases z : (stA true s).1 = 0
      · rw [if_pos z]
      · have q2 : la2 B n N nl s = stA true s := by rw [← e2, nw_dead z]; exact st_dead z
        have q3 : (laX B n N nl C c s).1 = stA true s := by rw [elx, exL, q2, if_neg z]
        rw [if_neg z, q3]
        exact (st_dead z).symm
    rw [efi] at h
    have y5 := y4.tr x5.ml
    by_cases z : (paA B n 59 (laX B n N nl C c s).1).1 = 0
    · have g19 : K5 58 19 = nI sd := by rw [y5.2.1 19 (by decide) (by decide) (by decide) (by decide) (by decide) (by omega)]; exact h19
      have g79 : K5 79 sd = nI nl := by
        rw [x5.1 79 (by decide), u_I_ne _ _ (by decide), x4.1 79 (by decide) (by decide) (by decide) (by decide), u_I_ne _ _ (by decide), x13.1 79 (by decide)]; exact h79
      rw [show K5 58 13 = 0 by rw [hK5.2.2.2.1]; exact (congrArg nI z).trans nI_0, if_pos (by decide), g19, nI_clamp (by omega), g79]
      refine ⟨vs, ?_⟩
      have zx : (laX B n N nl C c s).1.1 = 0 := (st_al z).1
      obtain ⟨⟨k1, k2, k3, k4⟩, k5⟩ := laX_ok hc zx
      have z2 : (la2 B n N nl s).1 = 0 := exL_al _ _ _ _ zx
      rw [← e2] at z2
      have zn : (nwA B n N (stA true s)).1 = 0 := (st_al z2).1
      have lf5 : (paA B n 59 (laX B n N nl C c s).1).2.2.1 = 0 → (nwA B n N (stA true s)).2.2.1 = 0 := fun q => by
        rw [show (paA B n 59 (laX B n N nl C c s).1).2.2 = (laX B n N nl C c s).1.2.2 from st_lf] at q
        have := (exL_lk (B := B) (n := n) 402 true (la2 B n N nl s) (e0_X C c)).2 q
        rw [← e2, show (paA B n 61 (nwA B n N (stA true s))).2.2 = (nwA B n N (stA true s)).2.2 from st_lf] at this
        exact this
      refine m_knows (so := 146) (wh := nl) (N' := nwN B n N (stA true s) 146 nl) hK5 (rN_lf (HN4.r58 x5) lf5) hcn hK1.2.1 (by omega) (Or.inr (Or.inr (Or.inr (Or.inl rfl)))) (fun q => nw_new zn (lf5 q)) (fun K6 M6 hK6 hr6 x6 m6 => ?_)
      have g6 : K6 58 19 = nI sd := by rw [x6.2 19 (by decide) (by decide) (by omega)]; exact g19
      rw [g6, nI_clamp (by omega), x6.1 79 (by decide) (by decide) (by decide), g79, nI_1]
      refine ⟨vs, vs, ?_⟩
      have E4' := E4 zx
      have back : ∀ q, q ≠ 58 → q ≠ 67 → q ≠ 68 → q ≠ 79 → (u_I K6 79 sd (nI (nl + 1))) q = (u_I K4 81 (6 * sd + nl) (K4 58 44)) q := fun q a b c e => by rw [u_I_ne _ _ e, x6.1 q a b c, x5.1 q a]
      have b58 : ∀ j, j ≠ 11 → j ≠ 20 → j < 13 ∨ 16 < j → (u_I K6 79 sd (nI (nl + 1))) 58 j = K4 58 j := fun j a b c => by rw [u_I_ne _ _ (by decide), x6.2 j a b c, x5.2 j a c, u_I_ne _ _ (by decide)]
      rw [ep] at h
      refine h _ M6 (rr_tab hK6 (by decide)) (((y5.tr x6.ml)).tr ml_79) m6 (fun _ => ⟨rN_tab hr6 (by decide), by simp [u_I], ?_, ?_, ?_, ?_, fun j hj => ?_⟩)
      · rw [back 80 (by decide) (by decide) (by decide) (by decide), u_I_ne _ _ (by decide), x4.1 80 (by decide) (by decide) (by decide) (by decide)]
        simp only [u_I, if_true]; exact e44
      · rw [back 81 (by decide) (by decide) (by decide) (by decide)]
        simp only [u_I, if_true]; exact E4'.2.2.1
      · rw [b58 44 (by decide) (by decide) (by omega)]; exact E4'.2.2.1
      · rw [b58 12 (by decide) (by decide) (by omega), E4'.2.1, k4]
      · rw [back 89 (by decide) (by decide) (by decide) (by decide), back 90 (by decide) (by decide) (by decide) (by decide), u_I_ne _ _ (by decide), u_I_ne _ _ (by decide)]
        exact E4'.2.2.2 j hj
    · have h2 := hK5.2.2.2.2.1
      rw [if_neg (show ¬ K5 58 13 ≤ 0 by rw [hK5.2.2.2.1]; exact nI_nle (Nat.pos_of_ne_zero z) (by omega))]
      exact h K5 M hK5 y5 (fun _ _ => rfl) (fun q => absurd q z)
